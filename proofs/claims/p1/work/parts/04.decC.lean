theorem dX12_init_0 : decode cX12_init 0 = .ok (.aload_n 0, 1) := by decide +kernel
theorem dX12_init_1 : decode cX12_init 1 = .ok (.invokespecial 58, 3) := by decide +kernel
theorem dX12_init_4 : decode cX12_init 4 = .ok (.aload_n 0, 1) := by decide +kernel
theorem dX12_init_5 : decode cX12_init 5 = .ok (.bipush 120, 2) := by decide +kernel
theorem dX12_init_7 : decode cX12_init 7 = .ok (.newarray .int, 2) := by decide +kernel
theorem dX12_init_9 : decode cX12_init 9 = .ok (.putfield 14, 3) := by decide +kernel
theorem dX12_init_12 : decode cX12_init 12 = .ok (.aload_n 0, 1) := by decide +kernel
theorem dX12_init_13 : decode cX12_init 13 = .ok (.bipush 122, 2) := by decide +kernel
theorem dX12_init_15 : decode cX12_init 15 = .ok (.newarray .int, 2) := by decide +kernel
theorem dX12_init_17 : decode cX12_init 17 = .ok (.putfield 32, 3) := by decide +kernel
theorem dX12_init_20 : decode cX12_init 20 = .ok (.aload_n 0, 1) := by decide +kernel
theorem dX12_init_21 : decode cX12_init 21 = .ok (.bipush 122, 2) := by decide +kernel
theorem dX12_init_23 : decode cX12_init 23 = .ok (.newarray .int, 2) := by decide +kernel
theorem dX12_init_25 : decode cX12_init 25 = .ok (.putfield 21, 3) := by decide +kernel
theorem dX12_init_28 : decode cX12_init 28 = .ok (.aload_n 0, 1) := by decide +kernel
theorem dX12_init_29 : decode cX12_init 29 = .ok (.bipush 122, 2) := by decide +kernel
theorem dX12_init_31 : decode cX12_init 31 = .ok (.newarray .long, 2) := by decide +kernel
theorem dX12_init_33 : decode cX12_init 33 = .ok (.putfield 45, 3) := by decide +kernel
theorem dX12_init_36 : decode cX12_init 36 = .ok (.aload_n 0, 1) := by decide +kernel
theorem dX12_init_37 : decode cX12_init 37 = .ok (.ldc 64, 2) := by decide +kernel
theorem dX12_init_39 : decode cX12_init 39 = .ok (.newarray .int, 2) := by decide +kernel
theorem dX12_init_41 : decode cX12_init 41 = .ok (.putfield 65, 3) := by decide +kernel
theorem dX12_init_44 : decode cX12_init 44 = .ok (.aload_n 0, 1) := by decide +kernel
theorem dX12_init_45 : decode cX12_init 45 = .ok (.ldc 64, 2) := by decide +kernel
theorem dX12_init_47 : decode cX12_init 47 = .ok (.newarray .int, 2) := by decide +kernel
theorem dX12_init_49 : decode cX12_init 49 = .ok (.putfield 68, 3) := by decide +kernel
theorem dX12_init_52 : decode cX12_init 52 = .ok (.aload_n 0, 1) := by decide +kernel
theorem dX12_init_53 : decode cX12_init 53 = .ok (.ldc 64, 2) := by decide +kernel
theorem dX12_init_55 : decode cX12_init 55 = .ok (.newarray .int, 2) := by decide +kernel
theorem dX12_init_57 : decode cX12_init 57 = .ok (.putfield 71, 3) := by decide +kernel
theorem dX12_init_60 : decode cX12_init 60 = .ok (.aload_n 0, 1) := by decide +kernel
theorem dX12_init_61 : decode cX12_init 61 = .ok (.ldc 64, 2) := by decide +kernel
theorem dX12_init_63 : decode cX12_init 63 = .ok (.newarray .int, 2) := by decide +kernel
theorem dX12_init_65 : decode cX12_init 65 = .ok (.putfield 74, 3) := by decide +kernel
theorem dX12_init_68 : decode cX12_init 68 = .ok (.aload_n 0, 1) := by decide +kernel
theorem dX12_init_69 : decode cX12_init 69 = .ok (.sipush 309, 3) := by decide +kernel
theorem dX12_init_72 : decode cX12_init 72 = .ok (.newarray .int, 2) := by decide +kernel
theorem dX12_init_74 : decode cX12_init 74 = .ok (.putfield 77, 3) := by decide +kernel
theorem dX12_init_77 : decode cX12_init 77 = .ok (.aload_n 0, 1) := by decide +kernel
theorem dX12_init_78 : decode cX12_init 78 = .ok (.sipush 309, 3) := by decide +kernel
theorem dX12_init_81 : decode cX12_init 81 = .ok (.newarray .int, 2) := by decide +kernel
theorem dX12_init_83 : decode cX12_init 83 = .ok (.putfield 80, 3) := by decide +kernel
theorem dX12_init_86 : decode cX12_init 86 = .ok (.aload_n 0, 1) := by decide +kernel
theorem dX12_init_87 : decode cX12_init 87 = .ok (.sipush 309, 3) := by decide +kernel
theorem dX12_init_90 : decode cX12_init 90 = .ok (.newarray .int, 2) := by decide +kernel
theorem dX12_init_92 : decode cX12_init 92 = .ok (.putfield 83, 3) := by decide +kernel
theorem dX12_init_95 : decode cX12_init 95 = .ok (.aload_n 0, 1) := by decide +kernel
theorem dX12_init_96 : decode cX12_init 96 = .ok (.sipush 927, 3) := by decide +kernel
theorem dX12_init_99 : decode cX12_init 99 = .ok (.newarray .int, 2) := by decide +kernel
theorem dX12_init_101 : decode cX12_init 101 = .ok (.putfield 86, 3) := by decide +kernel
theorem dX12_init_104 : decode cX12_init 104 = .ok (.aload_n 0, 1) := by decide +kernel
theorem dX12_init_105 : decode cX12_init 105 = .ok (.sipush 288, 3) := by decide +kernel
theorem dX12_init_108 : decode cX12_init 108 = .ok (.newarray .boolean, 2) := by decide +kernel
theorem dX12_init_110 : decode cX12_init 110 = .ok (.putfield 89, 3) := by decide +kernel
theorem dX12_init_113 : decode cX12_init 113 = .ok (.aload_n 0, 1) := by decide +kernel
theorem dX12_init_114 : decode cX12_init 114 = .ok (.bipush 20, 2) := by decide +kernel
theorem dX12_init_116 : decode cX12_init 116 = .ok (.newarray .int, 2) := by decide +kernel
theorem dX12_init_118 : decode cX12_init 118 = .ok (.putfield 93, 3) := by decide +kernel
theorem dX12_init_121 : decode cX12_init 121 = .ok (.aload_n 0, 1) := by decide +kernel
theorem dX12_init_122 : decode cX12_init 122 = .ok (.sipush 1440, 3) := by decide +kernel
theorem dX12_init_125 : decode cX12_init 125 = .ok (.newarray .long, 2) := by decide +kernel
theorem dX12_init_127 : decode cX12_init 127 = .ok (.putfield 96, 3) := by decide +kernel
theorem dX12_init_130 : decode cX12_init 130 = .ok (.aload_n 0, 1) := by decide +kernel
theorem dX12_init_131 : decode cX12_init 131 = .ok (.sipush 1440, 3) := by decide +kernel
theorem dX12_init_134 : decode cX12_init 134 = .ok (.newarray .long, 2) := by decide +kernel
theorem dX12_init_136 : decode cX12_init 136 = .ok (.putfield 99, 3) := by decide +kernel
theorem dX12_init_139 : decode cX12_init 139 = .ok (.aload_n 0, 1) := by decide +kernel
theorem dX12_init_140 : decode cX12_init 140 = .ok (.sipush 288, 3) := by decide +kernel
theorem dX12_init_143 : decode cX12_init 143 = .ok (.newarray .int, 2) := by decide +kernel
theorem dX12_init_145 : decode cX12_init 145 = .ok (.putfield 102, 3) := by decide +kernel
theorem dX12_init_148 : decode cX12_init 148 = .ok (.aload_n 0, 1) := by decide +kernel
theorem dX12_init_149 : decode cX12_init 149 = .ok (.sipush 288, 3) := by decide +kernel
theorem dX12_init_152 : decode cX12_init 152 = .ok (.newarray .int, 2) := by decide +kernel
theorem dX12_init_154 : decode cX12_init 154 = .ok (.putfield 105, 3) := by decide +kernel
theorem dX12_init_157 : decode cX12_init 157 = .ok (.aload_n 0, 1) := by decide +kernel
theorem dX12_init_158 : decode cX12_init 158 = .ok (.sipush 864, 3) := by decide +kernel
theorem dX12_init_161 : decode cX12_init 161 = .ok (.newarray .int, 2) := by decide +kernel
theorem dX12_init_163 : decode cX12_init 163 = .ok (.putfield 108, 3) := by decide +kernel
theorem dX12_init_166 : decode cX12_init 166 = .ok (.aload_n 0, 1) := by decide +kernel
theorem dX12_init_167 : decode cX12_init 167 = .ok (.sipush 288, 3) := by decide +kernel
theorem dX12_init_170 : decode cX12_init 170 = .ok (.newarray .boolean, 2) := by decide +kernel
theorem dX12_init_172 : decode cX12_init 172 = .ok (.putfield 111, 3) := by decide +kernel
theorem dX12_init_175 : decode cX12_init 175 = .ok (.aload_n 0, 1) := by decide +kernel
theorem dX12_init_176 : decode cX12_init 176 = .ok (.sipush 288, 3) := by decide +kernel
theorem dX12_init_179 : decode cX12_init 179 = .ok (.newarray .boolean, 2) := by decide +kernel
theorem dX12_init_181 : decode cX12_init 181 = .ok (.putfield 114, 3) := by decide +kernel
theorem dX12_init_184 : decode cX12_init 184 = .ok (.aload_n 0, 1) := by decide +kernel
theorem dX12_init_185 : decode cX12_init 185 = .ok (.sipush 288, 3) := by decide +kernel
theorem dX12_init_188 : decode cX12_init 188 = .ok (.newarray .int, 2) := by decide +kernel
theorem dX12_init_190 : decode cX12_init 190 = .ok (.putfield 117, 3) := by decide +kernel
theorem dX12_init_193 : decode cX12_init 193 = .ok (.aload_n 0, 1) := by decide +kernel
theorem dX12_init_194 : decode cX12_init 194 = .ok (.ldc 120, 2) := by decide +kernel
theorem dX12_init_196 : decode cX12_init 196 = .ok (.newarray .int, 2) := by decide +kernel
theorem dX12_init_198 : decode cX12_init 198 = .ok (.putfield 121, 3) := by decide +kernel
theorem dX12_init_201 : decode cX12_init 201 = .ok (.aload_n 0, 1) := by decide +kernel
theorem dX12_init_202 : decode cX12_init 202 = .ok (.sipush 288, 3) := by decide +kernel
theorem dX12_init_205 : decode cX12_init 205 = .ok (.newarray .boolean, 2) := by decide +kernel
theorem dX12_init_207 : decode cX12_init 207 = .ok (.putfield 124, 3) := by decide +kernel
theorem dX12_init_210 : decode cX12_init 210 = .ok (.aload_n 0, 1) := by decide +kernel
theorem dX12_init_211 : decode cX12_init 211 = .ok (.bipush 90, 2) := by decide +kernel
theorem dX12_init_213 : decode cX12_init 213 = .ok (.newarray .int, 2) := by decide +kernel
theorem dX12_init_215 : decode cX12_init 215 = .ok (.putfield 127, 3) := by decide +kernel
theorem dX12_init_218 : decode cX12_init 218 = .ok (.aload_n 0, 1) := by decide +kernel
theorem dX12_init_219 : decode cX12_init 219 = .ok (.sipush 900, 3) := by decide +kernel
theorem dX12_init_222 : decode cX12_init 222 = .ok (.newarray .int, 2) := by decide +kernel
theorem dX12_init_224 : decode cX12_init 224 = .ok (.putfield 130, 3) := by decide +kernel
theorem dX12_init_227 : decode cX12_init 227 = .ok (.aload_n 0, 1) := by decide +kernel
theorem dX12_init_228 : decode cX12_init 228 = .ok (.sipush 288, 3) := by decide +kernel
theorem dX12_init_231 : decode cX12_init 231 = .ok (.newarray .int, 2) := by decide +kernel
theorem dX12_init_233 : decode cX12_init 233 = .ok (.putfield 133, 3) := by decide +kernel
theorem dX12_init_236 : decode cX12_init 236 = .ok (.aload_n 0, 1) := by decide +kernel
theorem dX12_init_237 : decode cX12_init 237 = .ok (.sipush 288, 3) := by decide +kernel
theorem dX12_init_240 : decode cX12_init 240 = .ok (.newarray .int, 2) := by decide +kernel
theorem dX12_init_242 : decode cX12_init 242 = .ok (.putfield 136, 3) := by decide +kernel
theorem dX12_init_245 : decode cX12_init 245 = .ok (.aload_n 0, 1) := by decide +kernel
theorem dX12_init_246 : decode cX12_init 246 = .ok (.sipush 1440, 3) := by decide +kernel
theorem dX12_init_249 : decode cX12_init 249 = .ok (.newarray .int, 2) := by decide +kernel
theorem dX12_init_251 : decode cX12_init 251 = .ok (.putfield 139, 3) := by decide +kernel
theorem dX12_init_254 : decode cX12_init 254 = .ok (.iconst 0, 1) := by decide +kernel
theorem dX12_init_255 : decode cX12_init 255 = .ok (.istore_n 1, 1) := by decide +kernel
theorem dX12_init_256 : decode cX12_init 256 = .ok (.iload_n 1, 1) := by decide +kernel
theorem dX12_init_257 : decode cX12_init 257 = .ok (.sipush 288, 3) := by decide +kernel
theorem dX12_init_260 : decode cX12_init 260 = .ok (.if_icmp .ge 16, 3) := by decide +kernel
theorem dX12_init_263 : decode cX12_init 263 = .ok (.aload_n 0, 1) := by decide +kernel
theorem dX12_init_264 : decode cX12_init 264 = .ok (.getfield 117, 3) := by decide +kernel
theorem dX12_init_267 : decode cX12_init 267 = .ok (.iload_n 1, 1) := by decide +kernel
theorem dX12_init_268 : decode cX12_init 268 = .ok (.iconst (-1), 1) := by decide +kernel
theorem dX12_init_269 : decode cX12_init 269 = .ok (.iastore, 1) := by decide +kernel
theorem dX12_init_270 : decode cX12_init 270 = .ok (.iinc 1 1, 3) := by decide +kernel
theorem dX12_init_273 : decode cX12_init 273 = .ok (.goto (-17), 3) := by decide +kernel
theorem dX12_init_276 : decode cX12_init 276 = .ok (.return_, 1) := by decide +kernel
theorem dX12_feed_0 : decode cX12_feed 0 = .ok (.aload_n 0, 1) := by decide +kernel
theorem dX12_feed_1 : decode cX12_feed 1 = .ok (.iconst 0, 1) := by decide +kernel
theorem dX12_feed_2 : decode cX12_feed 2 = .ok (.putfield 1, 3) := by decide +kernel
theorem dX12_feed_5 : decode cX12_feed 5 = .ok (.aload_n 0, 1) := by decide +kernel
theorem dX12_feed_6 : decode cX12_feed 6 = .ok (.lload_n 1, 1) := by decide +kernel
theorem dX12_feed_7 : decode cX12_feed 7 = .ok (.invokevirtual 7, 3) := by decide +kernel
theorem dX12_feed_10 : decode cX12_feed 10 = .ok (.aload_n 0, 1) := by decide +kernel
theorem dX12_feed_11 : decode cX12_feed 11 = .ok (.lload_n 3, 1) := by decide +kernel
theorem dX12_feed_12 : decode cX12_feed 12 = .ok (.invokevirtual 7, 3) := by decide +kernel
theorem dX12_feed_15 : decode cX12_feed 15 = .ok (.aload_n 0, 1) := by decide +kernel
theorem dX12_feed_16 : decode cX12_feed 16 = .ok (.lload 5, 2) := by decide +kernel
theorem dX12_feed_18 : decode cX12_feed 18 = .ok (.invokevirtual 7, 3) := by decide +kernel
theorem dX12_feed_21 : decode cX12_feed 21 = .ok (.aload_n 0, 1) := by decide +kernel
theorem dX12_feed_22 : decode cX12_feed 22 = .ok (.getfield 11, 3) := by decide +kernel
theorem dX12_feed_25 : decode cX12_feed 25 = .ok (.ireturn, 1) := by decide +kernel
theorem dX12_lay_0 : decode cX12_lay 0 = .ok (.bipush 56, 2) := by decide +kernel
theorem dX12_lay_2 : decode cX12_lay 2 = .ok (.istore_n 3, 1) := by decide +kernel
theorem dX12_lay_3 : decode cX12_lay 3 = .ok (.iload_n 3, 1) := by decide +kernel
theorem dX12_lay_4 : decode cX12_lay 4 = .ok (.ifCond .lt 63, 3) := by decide +kernel
theorem dX12_lay_7 : decode cX12_lay 7 = .ok (.lload_n 1, 1) := by decide +kernel
theorem dX12_lay_8 : decode cX12_lay 8 = .ok (.iload_n 3, 1) := by decide +kernel
theorem dX12_lay_9 : decode cX12_lay 9 = .ok (.lshr, 1) := by decide +kernel
theorem dX12_lay_10 : decode cX12_lay 10 = .ok (.l2i, 1) := by decide +kernel
theorem dX12_lay_11 : decode cX12_lay 11 = .ok (.sipush 255, 3) := by decide +kernel
theorem dX12_lay_14 : decode cX12_lay 14 = .ok (.iand, 1) := by decide +kernel
theorem dX12_lay_15 : decode cX12_lay 15 = .ok (.istore 4, 2) := by decide +kernel
theorem dX12_lay_17 : decode cX12_lay 17 = .ok (.iload 4, 2) := by decide +kernel
theorem dX12_lay_19 : decode cX12_lay 19 = .ok (.bipush 32, 2) := by decide +kernel
theorem dX12_lay_21 : decode cX12_lay 21 = .ok (.if_icmp .lt 40, 3) := by decide +kernel
theorem dX12_lay_24 : decode cX12_lay 24 = .ok (.iload 4, 2) := by decide +kernel
theorem dX12_lay_26 : decode cX12_lay 26 = .ok (.bipush 126, 2) := by decide +kernel
theorem dX12_lay_28 : decode cX12_lay 28 = .ok (.if_icmp .gt 33, 3) := by decide +kernel
theorem dX12_lay_31 : decode cX12_lay 31 = .ok (.aload_n 0, 1) := by decide +kernel
theorem dX12_lay_32 : decode cX12_lay 32 = .ok (.getfield 11, 3) := by decide +kernel
theorem dX12_lay_35 : decode cX12_lay 35 = .ok (.bipush 120, 2) := by decide +kernel
theorem dX12_lay_37 : decode cX12_lay 37 = .ok (.if_icmp .ge 24, 3) := by decide +kernel
theorem dX12_lay_40 : decode cX12_lay 40 = .ok (.aload_n 0, 1) := by decide +kernel
theorem dX12_lay_41 : decode cX12_lay 41 = .ok (.getfield 14, 3) := by decide +kernel
theorem dX12_lay_44 : decode cX12_lay 44 = .ok (.aload_n 0, 1) := by decide +kernel
theorem dX12_lay_45 : decode cX12_lay 45 = .ok (.getfield 11, 3) := by decide +kernel
theorem dX12_lay_48 : decode cX12_lay 48 = .ok (.iload 4, 2) := by decide +kernel
theorem dX12_lay_50 : decode cX12_lay 50 = .ok (.iastore, 1) := by decide +kernel
theorem dX12_lay_51 : decode cX12_lay 51 = .ok (.aload_n 0, 1) := by decide +kernel
theorem dX12_lay_52 : decode cX12_lay 52 = .ok (.dup, 1) := by decide +kernel
theorem dX12_lay_53 : decode cX12_lay 53 = .ok (.getfield 11, 3) := by decide +kernel
theorem dX12_lay_56 : decode cX12_lay 56 = .ok (.iconst 1, 1) := by decide +kernel
theorem dX12_lay_57 : decode cX12_lay 57 = .ok (.iadd, 1) := by decide +kernel
theorem dX12_lay_58 : decode cX12_lay 58 = .ok (.putfield 11, 3) := by decide +kernel
theorem dX12_lay_61 : decode cX12_lay 61 = .ok (.iinc 3 (-8), 3) := by decide +kernel
theorem dX12_lay_64 : decode cX12_lay 64 = .ok (.goto (-61), 3) := by decide +kernel
theorem dX12_lay_67 : decode cX12_lay 67 = .ok (.return_, 1) := by decide +kernel
theorem dX12_cutAll_0 : decode cX12_cutAll 0 = .ok (.aload_n 0, 1) := by decide +kernel
theorem dX12_cutAll_1 : decode cX12_cutAll 1 = .ok (.aload_n 0, 1) := by decide +kernel
theorem dX12_cutAll_2 : decode cX12_cutAll 2 = .ok (.getfield 11, 3) := by decide +kernel
theorem dX12_cutAll_5 : decode cX12_cutAll 5 = .ok (.putfield 18, 3) := by decide +kernel
theorem dX12_cutAll_8 : decode cX12_cutAll 8 = .ok (.aload_n 0, 1) := by decide +kernel
theorem dX12_cutAll_9 : decode cX12_cutAll 9 = .ok (.iconst 0, 1) := by decide +kernel
theorem dX12_cutAll_10 : decode cX12_cutAll 10 = .ok (.putfield 11, 3) := by decide +kernel
theorem dX12_cutAll_13 : decode cX12_cutAll 13 = .ok (.iconst 0, 1) := by decide +kernel
theorem dX12_cutAll_14 : decode cX12_cutAll 14 = .ok (.istore_n 1, 1) := by decide +kernel
theorem dX12_cutAll_15 : decode cX12_cutAll 15 = .ok (.iconst 0, 1) := by decide +kernel
theorem dX12_cutAll_16 : decode cX12_cutAll 16 = .ok (.istore_n 2, 1) := by decide +kernel
theorem dX12_cutAll_17 : decode cX12_cutAll 17 = .ok (.iload_n 2, 1) := by decide +kernel
theorem dX12_cutAll_18 : decode cX12_cutAll 18 = .ok (.aload_n 0, 1) := by decide +kernel
theorem dX12_cutAll_19 : decode cX12_cutAll 19 = .ok (.getfield 18, 3) := by decide +kernel
theorem dX12_cutAll_22 : decode cX12_cutAll 22 = .ok (.if_icmp .ge 252, 3) := by decide +kernel
theorem dX12_cutAll_25 : decode cX12_cutAll 25 = .ok (.aload_n 0, 1) := by decide +kernel
theorem dX12_cutAll_26 : decode cX12_cutAll 26 = .ok (.getfield 14, 3) := by decide +kernel
theorem dX12_cutAll_29 : decode cX12_cutAll 29 = .ok (.iload_n 2, 1) := by decide +kernel
theorem dX12_cutAll_30 : decode cX12_cutAll 30 = .ok (.iaload, 1) := by decide +kernel
theorem dX12_cutAll_31 : decode cX12_cutAll 31 = .ok (.istore_n 3, 1) := by decide +kernel
theorem dX12_cutAll_32 : decode cX12_cutAll 32 = .ok (.iload_n 3, 1) := by decide +kernel
theorem dX12_cutAll_33 : decode cX12_cutAll 33 = .ok (.bipush 32, 2) := by decide +kernel
theorem dX12_cutAll_35 : decode cX12_cutAll 35 = .ok (.if_icmp .ne 9, 3) := by decide +kernel
theorem dX12_cutAll_38 : decode cX12_cutAll 38 = .ok (.iinc 2 1, 3) := by decide +kernel
theorem dX12_cutAll_41 : decode cX12_cutAll 41 = .ok (.goto (-24), 3) := by decide +kernel
theorem dX12_cutAll_44 : decode cX12_cutAll 44 = .ok (.iload_n 2, 1) := by decide +kernel
theorem dX12_cutAll_45 : decode cX12_cutAll 45 = .ok (.istore 4, 2) := by decide +kernel
theorem dX12_cutAll_47 : decode cX12_cutAll 47 = .ok (.lconst 0, 1) := by decide +kernel
theorem dX12_cutAll_48 : decode cX12_cutAll 48 = .ok (.lstore 5, 2) := by decide +kernel
theorem dX12_cutAll_50 : decode cX12_cutAll 50 = .ok (.aload_n 0, 1) := by decide +kernel
theorem dX12_cutAll_51 : decode cX12_cutAll 51 = .ok (.getfield 21, 3) := by decide +kernel
theorem dX12_cutAll_54 : decode cX12_cutAll 54 = .ok (.iload_n 1, 1) := by decide +kernel
theorem dX12_cutAll_55 : decode cX12_cutAll 55 = .ok (.iload_n 2, 1) := by decide +kernel
theorem dX12_cutAll_56 : decode cX12_cutAll 56 = .ok (.iastore, 1) := by decide +kernel
theorem dX12_cutAll_57 : decode cX12_cutAll 57 = .ok (.iload_n 3, 1) := by decide +kernel
theorem dX12_cutAll_58 : decode cX12_cutAll 58 = .ok (.invokestatic 24, 3) := by decide +kernel
theorem dX12_cutAll_61 : decode cX12_cutAll 61 = .ok (.ifCond .eq 84, 3) := by decide +kernel
theorem dX12_cutAll_64 : decode cX12_cutAll 64 = .ok (.iload_n 2, 1) := by decide +kernel
theorem dX12_cutAll_65 : decode cX12_cutAll 65 = .ok (.aload_n 0, 1) := by decide +kernel
theorem dX12_cutAll_66 : decode cX12_cutAll 66 = .ok (.getfield 18, 3) := by decide +kernel
theorem dX12_cutAll_69 : decode cX12_cutAll 69 = .ok (.if_icmp .ge 54, 3) := by decide +kernel
theorem dX12_cutAll_72 : decode cX12_cutAll 72 = .ok (.aload_n 0, 1) := by decide +kernel
theorem dX12_cutAll_73 : decode cX12_cutAll 73 = .ok (.getfield 14, 3) := by decide +kernel
theorem dX12_cutAll_76 : decode cX12_cutAll 76 = .ok (.iload_n 2, 1) := by decide +kernel
theorem dX12_cutAll_77 : decode cX12_cutAll 77 = .ok (.iaload, 1) := by decide +kernel
theorem dX12_cutAll_78 : decode cX12_cutAll 78 = .ok (.invokestatic 24, 3) := by decide +kernel
theorem dX12_cutAll_81 : decode cX12_cutAll 81 = .ok (.ifCond .eq 42, 3) := by decide +kernel
theorem dX12_cutAll_84 : decode cX12_cutAll 84 = .ok (.iload_n 2, 1) := by decide +kernel
theorem dX12_cutAll_85 : decode cX12_cutAll 85 = .ok (.iload 4, 2) := by decide +kernel
theorem dX12_cutAll_87 : decode cX12_cutAll 87 = .ok (.isub, 1) := by decide +kernel
theorem dX12_cutAll_88 : decode cX12_cutAll 88 = .ok (.iconst 3, 1) := by decide +kernel
theorem dX12_cutAll_89 : decode cX12_cutAll 89 = .ok (.if_icmp .ge 24, 3) := by decide +kernel
theorem dX12_cutAll_92 : decode cX12_cutAll 92 = .ok (.ldc2_w 28, 3) := by decide +kernel
theorem dX12_cutAll_95 : decode cX12_cutAll 95 = .ok (.lload 5, 2) := by decide +kernel
theorem dX12_cutAll_97 : decode cX12_cutAll 97 = .ok (.lmul, 1) := by decide +kernel
theorem dX12_cutAll_98 : decode cX12_cutAll 98 = .ok (.aload_n 0, 1) := by decide +kernel
theorem dX12_cutAll_99 : decode cX12_cutAll 99 = .ok (.getfield 14, 3) := by decide +kernel
theorem dX12_cutAll_102 : decode cX12_cutAll 102 = .ok (.iload_n 2, 1) := by decide +kernel
theorem dX12_cutAll_103 : decode cX12_cutAll 103 = .ok (.iaload, 1) := by decide +kernel
theorem dX12_cutAll_104 : decode cX12_cutAll 104 = .ok (.i2l, 1) := by decide +kernel
theorem dX12_cutAll_105 : decode cX12_cutAll 105 = .ok (.ladd, 1) := by decide +kernel
theorem dX12_cutAll_106 : decode cX12_cutAll 106 = .ok (.ldc2_w 30, 3) := by decide +kernel
theorem dX12_cutAll_109 : decode cX12_cutAll 109 = .ok (.lsub, 1) := by decide +kernel
theorem dX12_cutAll_110 : decode cX12_cutAll 110 = .ok (.goto 5, 3) := by decide +kernel
theorem dX12_cutAll_113 : decode cX12_cutAll 113 = .ok (.lload 5, 2) := by decide +kernel
theorem dX12_cutAll_115 : decode cX12_cutAll 115 = .ok (.lstore 5, 2) := by decide +kernel
theorem dX12_cutAll_117 : decode cX12_cutAll 117 = .ok (.iinc 2 1, 3) := by decide +kernel
theorem dX12_cutAll_120 : decode cX12_cutAll 120 = .ok (.goto (-56), 3) := by decide +kernel
theorem dX12_cutAll_123 : decode cX12_cutAll 123 = .ok (.aload_n 0, 1) := by decide +kernel
theorem dX12_cutAll_124 : decode cX12_cutAll 124 = .ok (.getfield 32, 3) := by decide +kernel
theorem dX12_cutAll_127 : decode cX12_cutAll 127 = .ok (.iload_n 1, 1) := by decide +kernel
theorem dX12_cutAll_128 : decode cX12_cutAll 128 = .ok (.iload_n 2, 1) := by decide +kernel
theorem dX12_cutAll_129 : decode cX12_cutAll 129 = .ok (.iload 4, 2) := by decide +kernel
theorem dX12_cutAll_131 : decode cX12_cutAll 131 = .ok (.isub, 1) := by decide +kernel
theorem dX12_cutAll_132 : decode cX12_cutAll 132 = .ok (.iconst 3, 1) := by decide +kernel
theorem dX12_cutAll_133 : decode cX12_cutAll 133 = .ok (.if_icmp .le 7, 3) := by decide +kernel
theorem dX12_cutAll_136 : decode cX12_cutAll 136 = .ok (.iconst 4, 1) := by decide +kernel
theorem dX12_cutAll_137 : decode cX12_cutAll 137 = .ok (.goto 4, 3) := by decide +kernel
theorem dX12_cutAll_140 : decode cX12_cutAll 140 = .ok (.iconst 1, 1) := by decide +kernel
theorem dX12_cutAll_141 : decode cX12_cutAll 141 = .ok (.iastore, 1) := by decide +kernel
theorem dX12_cutAll_142 : decode cX12_cutAll 142 = .ok (.goto 118, 3) := by decide +kernel
theorem dX12_cutAll_145 : decode cX12_cutAll 145 = .ok (.iload_n 3, 1) := by decide +kernel
theorem dX12_cutAll_146 : decode cX12_cutAll 146 = .ok (.invokestatic 35, 3) := by decide +kernel
theorem dX12_cutAll_149 : decode cX12_cutAll 149 = .ok (.ifCond .eq 86, 3) := by decide +kernel
theorem dX12_cutAll_152 : decode cX12_cutAll 152 = .ok (.iload_n 2, 1) := by decide +kernel
theorem dX12_cutAll_153 : decode cX12_cutAll 153 = .ok (.aload_n 0, 1) := by decide +kernel
theorem dX12_cutAll_154 : decode cX12_cutAll 154 = .ok (.getfield 18, 3) := by decide +kernel
theorem dX12_cutAll_157 : decode cX12_cutAll 157 = .ok (.if_icmp .ge 55, 3) := by decide +kernel
theorem dX12_cutAll_160 : decode cX12_cutAll 160 = .ok (.aload_n 0, 1) := by decide +kernel
theorem dX12_cutAll_161 : decode cX12_cutAll 161 = .ok (.getfield 14, 3) := by decide +kernel
theorem dX12_cutAll_164 : decode cX12_cutAll 164 = .ok (.iload_n 2, 1) := by decide +kernel
theorem dX12_cutAll_165 : decode cX12_cutAll 165 = .ok (.iaload, 1) := by decide +kernel
theorem dX12_cutAll_166 : decode cX12_cutAll 166 = .ok (.invokestatic 35, 3) := by decide +kernel
theorem dX12_cutAll_169 : decode cX12_cutAll 169 = .ok (.ifCond .eq 43, 3) := by decide +kernel
theorem dX12_cutAll_172 : decode cX12_cutAll 172 = .ok (.iload_n 2, 1) := by decide +kernel
theorem dX12_cutAll_173 : decode cX12_cutAll 173 = .ok (.iload 4, 2) := by decide +kernel
theorem dX12_cutAll_175 : decode cX12_cutAll 175 = .ok (.isub, 1) := by decide +kernel
theorem dX12_cutAll_176 : decode cX12_cutAll 176 = .ok (.bipush 6, 2) := by decide +kernel
theorem dX12_cutAll_178 : decode cX12_cutAll 178 = .ok (.if_icmp .ge 24, 3) := by decide +kernel
theorem dX12_cutAll_181 : decode cX12_cutAll 181 = .ok (.ldc2_w 38, 3) := by decide +kernel
theorem dX12_cutAll_184 : decode cX12_cutAll 184 = .ok (.lload 5, 2) := by decide +kernel
theorem dX12_cutAll_186 : decode cX12_cutAll 186 = .ok (.lmul, 1) := by decide +kernel
theorem dX12_cutAll_187 : decode cX12_cutAll 187 = .ok (.aload_n 0, 1) := by decide +kernel
theorem dX12_cutAll_188 : decode cX12_cutAll 188 = .ok (.getfield 14, 3) := by decide +kernel
theorem dX12_cutAll_191 : decode cX12_cutAll 191 = .ok (.iload_n 2, 1) := by decide +kernel
theorem dX12_cutAll_192 : decode cX12_cutAll 192 = .ok (.iaload, 1) := by decide +kernel
theorem dX12_cutAll_193 : decode cX12_cutAll 193 = .ok (.i2l, 1) := by decide +kernel
theorem dX12_cutAll_194 : decode cX12_cutAll 194 = .ok (.ladd, 1) := by decide +kernel
theorem dX12_cutAll_195 : decode cX12_cutAll 195 = .ok (.ldc2_w 40, 3) := by decide +kernel
theorem dX12_cutAll_198 : decode cX12_cutAll 198 = .ok (.lsub, 1) := by decide +kernel
theorem dX12_cutAll_199 : decode cX12_cutAll 199 = .ok (.goto 5, 3) := by decide +kernel
theorem dX12_cutAll_202 : decode cX12_cutAll 202 = .ok (.lload 5, 2) := by decide +kernel
theorem dX12_cutAll_204 : decode cX12_cutAll 204 = .ok (.lstore 5, 2) := by decide +kernel
theorem dX12_cutAll_206 : decode cX12_cutAll 206 = .ok (.iinc 2 1, 3) := by decide +kernel
theorem dX12_cutAll_209 : decode cX12_cutAll 209 = .ok (.goto (-57), 3) := by decide +kernel
theorem dX12_cutAll_212 : decode cX12_cutAll 212 = .ok (.aload_n 0, 1) := by decide +kernel
theorem dX12_cutAll_213 : decode cX12_cutAll 213 = .ok (.getfield 32, 3) := by decide +kernel
theorem dX12_cutAll_216 : decode cX12_cutAll 216 = .ok (.iload_n 1, 1) := by decide +kernel
theorem dX12_cutAll_217 : decode cX12_cutAll 217 = .ok (.iload_n 2, 1) := by decide +kernel
theorem dX12_cutAll_218 : decode cX12_cutAll 218 = .ok (.iload 4, 2) := by decide +kernel
theorem dX12_cutAll_220 : decode cX12_cutAll 220 = .ok (.isub, 1) := by decide +kernel
theorem dX12_cutAll_221 : decode cX12_cutAll 221 = .ok (.bipush 6, 2) := by decide +kernel
theorem dX12_cutAll_223 : decode cX12_cutAll 223 = .ok (.if_icmp .le 7, 3) := by decide +kernel
theorem dX12_cutAll_226 : decode cX12_cutAll 226 = .ok (.iconst 4, 1) := by decide +kernel
theorem dX12_cutAll_227 : decode cX12_cutAll 227 = .ok (.goto 4, 3) := by decide +kernel
theorem dX12_cutAll_230 : decode cX12_cutAll 230 = .ok (.iconst 2, 1) := by decide +kernel
theorem dX12_cutAll_231 : decode cX12_cutAll 231 = .ok (.iastore, 1) := by decide +kernel
theorem dX12_cutAll_232 : decode cX12_cutAll 232 = .ok (.goto 28, 3) := by decide +kernel
theorem dX12_cutAll_235 : decode cX12_cutAll 235 = .ok (.iload_n 3, 1) := by decide +kernel
theorem dX12_cutAll_236 : decode cX12_cutAll 236 = .ok (.i2l, 1) := by decide +kernel
theorem dX12_cutAll_237 : decode cX12_cutAll 237 = .ok (.lstore 5, 2) := by decide +kernel
theorem dX12_cutAll_239 : decode cX12_cutAll 239 = .ok (.aload_n 0, 1) := by decide +kernel
theorem dX12_cutAll_240 : decode cX12_cutAll 240 = .ok (.getfield 32, 3) := by decide +kernel
theorem dX12_cutAll_243 : decode cX12_cutAll 243 = .ok (.iload_n 1, 1) := by decide +kernel
theorem dX12_cutAll_244 : decode cX12_cutAll 244 = .ok (.iload_n 3, 1) := by decide +kernel
theorem dX12_cutAll_245 : decode cX12_cutAll 245 = .ok (.invokestatic 42, 3) := by decide +kernel
theorem dX12_cutAll_248 : decode cX12_cutAll 248 = .ok (.ifCond .eq 7, 3) := by decide +kernel
theorem dX12_cutAll_251 : decode cX12_cutAll 251 = .ok (.iconst 3, 1) := by decide +kernel
theorem dX12_cutAll_252 : decode cX12_cutAll 252 = .ok (.goto 4, 3) := by decide +kernel
theorem dX12_cutAll_255 : decode cX12_cutAll 255 = .ok (.iconst 4, 1) := by decide +kernel
theorem dX12_cutAll_256 : decode cX12_cutAll 256 = .ok (.iastore, 1) := by decide +kernel
theorem dX12_cutAll_257 : decode cX12_cutAll 257 = .ok (.iinc 2 1, 3) := by decide +kernel
theorem dX12_cutAll_260 : decode cX12_cutAll 260 = .ok (.aload_n 0, 1) := by decide +kernel
theorem dX12_cutAll_261 : decode cX12_cutAll 261 = .ok (.getfield 45, 3) := by decide +kernel
theorem dX12_cutAll_264 : decode cX12_cutAll 264 = .ok (.iload_n 1, 1) := by decide +kernel
theorem dX12_cutAll_265 : decode cX12_cutAll 265 = .ok (.lload 5, 2) := by decide +kernel
theorem dX12_cutAll_267 : decode cX12_cutAll 267 = .ok (.lastore, 1) := by decide +kernel
theorem dX12_cutAll_268 : decode cX12_cutAll 268 = .ok (.iinc 1 1, 3) := by decide +kernel
theorem dX12_cutAll_271 : decode cX12_cutAll 271 = .ok (.goto (-254), 3) := by decide +kernel
theorem dX12_cutAll_274 : decode cX12_cutAll 274 = .ok (.aload_n 0, 1) := by decide +kernel
theorem dX12_cutAll_275 : decode cX12_cutAll 275 = .ok (.getfield 32, 3) := by decide +kernel
theorem dX12_cutAll_278 : decode cX12_cutAll 278 = .ok (.iload_n 1, 1) := by decide +kernel
theorem dX12_cutAll_279 : decode cX12_cutAll 279 = .ok (.iconst 0, 1) := by decide +kernel
theorem dX12_cutAll_280 : decode cX12_cutAll 280 = .ok (.iastore, 1) := by decide +kernel
theorem dX12_cutAll_281 : decode cX12_cutAll 281 = .ok (.aload_n 0, 1) := by decide +kernel
theorem dX12_cutAll_282 : decode cX12_cutAll 282 = .ok (.getfield 21, 3) := by decide +kernel
theorem dX12_cutAll_285 : decode cX12_cutAll 285 = .ok (.iload_n 1, 1) := by decide +kernel
theorem dX12_cutAll_286 : decode cX12_cutAll 286 = .ok (.aload_n 0, 1) := by decide +kernel
theorem dX12_cutAll_287 : decode cX12_cutAll 287 = .ok (.getfield 18, 3) := by decide +kernel
theorem dX12_cutAll_290 : decode cX12_cutAll 290 = .ok (.iastore, 1) := by decide +kernel
theorem dX12_cutAll_291 : decode cX12_cutAll 291 = .ok (.aload_n 0, 1) := by decide +kernel
theorem dX12_cutAll_292 : decode cX12_cutAll 292 = .ok (.iconst 0, 1) := by decide +kernel
theorem dX12_cutAll_293 : decode cX12_cutAll 293 = .ok (.putfield 49, 3) := by decide +kernel
theorem dX12_cutAll_296 : decode cX12_cutAll 296 = .ok (.aload_n 0, 1) := by decide +kernel
theorem dX12_cutAll_297 : decode cX12_cutAll 297 = .ok (.iconst 0, 1) := by decide +kernel
theorem dX12_cutAll_298 : decode cX12_cutAll 298 = .ok (.putfield 52, 3) := by decide +kernel
theorem dX12_cutAll_301 : decode cX12_cutAll 301 = .ok (.return_, 1) := by decide +kernel
theorem dX12_wrong_0 : decode cX12_wrong 0 = .ok (.aload_n 0, 1) := by decide +kernel
theorem dX12_wrong_1 : decode cX12_wrong 1 = .ok (.getfield 52, 3) := by decide +kernel
theorem dX12_wrong_4 : decode cX12_wrong 4 = .ok (.ifCond .ne 21, 3) := by decide +kernel
theorem dX12_wrong_7 : decode cX12_wrong 7 = .ok (.aload_n 0, 1) := by decide +kernel
theorem dX12_wrong_8 : decode cX12_wrong 8 = .ok (.iload_n 1, 1) := by decide +kernel
theorem dX12_wrong_9 : decode cX12_wrong 9 = .ok (.bipush 16, 2) := by decide +kernel
theorem dX12_wrong_11 : decode cX12_wrong 11 = .ok (.aload_n 0, 1) := by decide +kernel
theorem dX12_wrong_12 : decode cX12_wrong 12 = .ok (.getfield 21, 3) := by decide +kernel
theorem dX12_wrong_15 : decode cX12_wrong 15 = .ok (.aload_n 0, 1) := by decide +kernel
theorem dX12_wrong_16 : decode cX12_wrong 16 = .ok (.getfield 49, 3) := by decide +kernel
theorem dX12_wrong_19 : decode cX12_wrong 19 = .ok (.iaload, 1) := by decide +kernel
theorem dX12_wrong_20 : decode cX12_wrong 20 = .ok (.imul, 1) := by decide +kernel
theorem dX12_wrong_21 : decode cX12_wrong 21 = .ok (.iadd, 1) := by decide +kernel
theorem dX12_wrong_22 : decode cX12_wrong 22 = .ok (.putfield 52, 3) := by decide +kernel
theorem dX12_wrong_25 : decode cX12_wrong 25 = .ok (.return_, 1) := by decide +kernel
theorem dX12_isSign_0 : decode cX12_isSign 0 = .ok (.aload_n 0, 1) := by decide +kernel
theorem dX12_isSign_1 : decode cX12_isSign 1 = .ok (.getfield 52, 3) := by decide +kernel
theorem dX12_isSign_4 : decode cX12_isSign 4 = .ok (.ifCond .ne 35, 3) := by decide +kernel
theorem dX12_isSign_7 : decode cX12_isSign 7 = .ok (.aload_n 0, 1) := by decide +kernel
theorem dX12_isSign_8 : decode cX12_isSign 8 = .ok (.getfield 32, 3) := by decide +kernel
theorem dX12_isSign_11 : decode cX12_isSign 11 = .ok (.aload_n 0, 1) := by decide +kernel
theorem dX12_isSign_12 : decode cX12_isSign 12 = .ok (.getfield 49, 3) := by decide +kernel
theorem dX12_isSign_15 : decode cX12_isSign 15 = .ok (.iaload, 1) := by decide +kernel
theorem dX12_isSign_16 : decode cX12_isSign 16 = .ok (.iconst 3, 1) := by decide +kernel
theorem dX12_isSign_17 : decode cX12_isSign 17 = .ok (.if_icmp .ne 22, 3) := by decide +kernel
theorem dX12_isSign_20 : decode cX12_isSign 20 = .ok (.aload_n 0, 1) := by decide +kernel
theorem dX12_isSign_21 : decode cX12_isSign 21 = .ok (.getfield 45, 3) := by decide +kernel
theorem dX12_isSign_24 : decode cX12_isSign 24 = .ok (.aload_n 0, 1) := by decide +kernel
theorem dX12_isSign_25 : decode cX12_isSign 25 = .ok (.getfield 49, 3) := by decide +kernel
theorem dX12_isSign_28 : decode cX12_isSign 28 = .ok (.laload, 1) := by decide +kernel
theorem dX12_isSign_29 : decode cX12_isSign 29 = .ok (.iload_n 1, 1) := by decide +kernel
theorem dX12_isSign_30 : decode cX12_isSign 30 = .ok (.i2l, 1) := by decide +kernel
theorem dX12_isSign_31 : decode cX12_isSign 31 = .ok (.lcmp, 1) := by decide +kernel
theorem dX12_isSign_32 : decode cX12_isSign 32 = .ok (.ifCond .ne 7, 3) := by decide +kernel
theorem dX12_isSign_35 : decode cX12_isSign 35 = .ok (.iconst 1, 1) := by decide +kernel
theorem dX12_isSign_36 : decode cX12_isSign 36 = .ok (.goto 4, 3) := by decide +kernel
theorem dX12_isSign_39 : decode cX12_isSign 39 = .ok (.iconst 0, 1) := by decide +kernel
theorem dX12_isSign_40 : decode cX12_isSign 40 = .ok (.ireturn, 1) := by decide +kernel
theorem dX12_isSum_0 : decode cX12_isSum 0 = .ok (.aload_n 0, 1) := by decide +kernel
theorem dX12_isSum_1 : decode cX12_isSum 1 = .ok (.getfield 52, 3) := by decide +kernel
theorem dX12_isSum_4 : decode cX12_isSum 4 = .ok (.ifCond .ne 36, 3) := by decide +kernel
theorem dX12_isSum_7 : decode cX12_isSum 7 = .ok (.aload_n 0, 1) := by decide +kernel
theorem dX12_isSum_8 : decode cX12_isSum 8 = .ok (.getfield 32, 3) := by decide +kernel
theorem dX12_isSum_11 : decode cX12_isSum 11 = .ok (.aload_n 0, 1) := by decide +kernel
theorem dX12_isSum_12 : decode cX12_isSum 12 = .ok (.getfield 49, 3) := by decide +kernel
theorem dX12_isSum_15 : decode cX12_isSum 15 = .ok (.iaload, 1) := by decide +kernel
theorem dX12_isSum_16 : decode cX12_isSum 16 = .ok (.iconst 1, 1) := by decide +kernel
theorem dX12_isSum_17 : decode cX12_isSum 17 = .ok (.if_icmp .ne 23, 3) := by decide +kernel
theorem dX12_isSum_20 : decode cX12_isSum 20 = .ok (.aload_n 0, 1) := by decide +kernel
theorem dX12_isSum_21 : decode cX12_isSum 21 = .ok (.getfield 45, 3) := by decide +kernel
theorem dX12_isSum_24 : decode cX12_isSum 24 = .ok (.aload_n 0, 1) := by decide +kernel
theorem dX12_isSum_25 : decode cX12_isSum 25 = .ok (.getfield 49, 3) := by decide +kernel
theorem dX12_isSum_28 : decode cX12_isSum 28 = .ok (.laload, 1) := by decide +kernel
theorem dX12_isSum_29 : decode cX12_isSum 29 = .ok (.ldc2_w 151, 3) := by decide +kernel
theorem dX12_isSum_32 : decode cX12_isSum 32 = .ok (.lcmp, 1) := by decide +kernel
theorem dX12_isSum_33 : decode cX12_isSum 33 = .ok (.ifCond .ne 7, 3) := by decide +kernel
theorem dX12_isSum_36 : decode cX12_isSum 36 = .ok (.iconst 1, 1) := by decide +kernel
theorem dX12_isSum_37 : decode cX12_isSum 37 = .ok (.goto 4, 3) := by decide +kernel
theorem dX12_isSum_40 : decode cX12_isSum 40 = .ok (.iconst 0, 1) := by decide +kernel
theorem dX12_isSum_41 : decode cX12_isSum 41 = .ok (.ireturn, 1) := by decide +kernel
theorem dX12_isColumn_0 : decode cX12_isColumn 0 = .ok (.aload_n 0, 1) := by decide +kernel
theorem dX12_isColumn_1 : decode cX12_isColumn 1 = .ok (.getfield 52, 3) := by decide +kernel
theorem dX12_isColumn_4 : decode cX12_isColumn 4 = .ok (.ifCond .ne 50, 3) := by decide +kernel
theorem dX12_isColumn_7 : decode cX12_isColumn 7 = .ok (.aload_n 0, 1) := by decide +kernel
theorem dX12_isColumn_8 : decode cX12_isColumn 8 = .ok (.getfield 32, 3) := by decide +kernel
theorem dX12_isColumn_11 : decode cX12_isColumn 11 = .ok (.aload_n 0, 1) := by decide +kernel
theorem dX12_isColumn_12 : decode cX12_isColumn 12 = .ok (.getfield 49, 3) := by decide +kernel
theorem dX12_isColumn_15 : decode cX12_isColumn 15 = .ok (.iaload, 1) := by decide +kernel
theorem dX12_isColumn_16 : decode cX12_isColumn 16 = .ok (.iconst 1, 1) := by decide +kernel
theorem dX12_isColumn_17 : decode cX12_isColumn 17 = .ok (.if_icmp .ne 37, 3) := by decide +kernel
theorem dX12_isColumn_20 : decode cX12_isColumn 20 = .ok (.aload_n 0, 1) := by decide +kernel
theorem dX12_isColumn_21 : decode cX12_isColumn 21 = .ok (.getfield 45, 3) := by decide +kernel
theorem dX12_isColumn_24 : decode cX12_isColumn 24 = .ok (.aload_n 0, 1) := by decide +kernel
theorem dX12_isColumn_25 : decode cX12_isColumn 25 = .ok (.getfield 49, 3) := by decide +kernel
theorem dX12_isColumn_28 : decode cX12_isColumn 28 = .ok (.laload, 1) := by decide +kernel
theorem dX12_isColumn_29 : decode cX12_isColumn 29 = .ok (.lconst 1, 1) := by decide +kernel
theorem dX12_isColumn_30 : decode cX12_isColumn 30 = .ok (.lcmp, 1) := by decide +kernel
theorem dX12_isColumn_31 : decode cX12_isColumn 31 = .ok (.ifCond .lt 23, 3) := by decide +kernel
theorem dX12_isColumn_34 : decode cX12_isColumn 34 = .ok (.aload_n 0, 1) := by decide +kernel
theorem dX12_isColumn_35 : decode cX12_isColumn 35 = .ok (.getfield 45, 3) := by decide +kernel
theorem dX12_isColumn_38 : decode cX12_isColumn 38 = .ok (.aload_n 0, 1) := by decide +kernel
theorem dX12_isColumn_39 : decode cX12_isColumn 39 = .ok (.getfield 49, 3) := by decide +kernel
theorem dX12_isColumn_42 : decode cX12_isColumn 42 = .ok (.laload, 1) := by decide +kernel
theorem dX12_isColumn_43 : decode cX12_isColumn 43 = .ok (.ldc2_w 153, 3) := by decide +kernel
theorem dX12_isColumn_46 : decode cX12_isColumn 46 = .ok (.lcmp, 1) := by decide +kernel
theorem dX12_isColumn_47 : decode cX12_isColumn 47 = .ok (.ifCond .gt 7, 3) := by decide +kernel
theorem dX12_isColumn_50 : decode cX12_isColumn 50 = .ok (.iconst 1, 1) := by decide +kernel
theorem dX12_isColumn_51 : decode cX12_isColumn 51 = .ok (.goto 4, 3) := by decide +kernel
theorem dX12_isColumn_54 : decode cX12_isColumn 54 = .ok (.iconst 0, 1) := by decide +kernel
theorem dX12_isColumn_55 : decode cX12_isColumn 55 = .ok (.ireturn, 1) := by decide +kernel
theorem dX12_readE_0 : decode cX12_readE 0 = .ok (.aload_n 0, 1) := by decide +kernel
theorem dX12_readE_1 : decode cX12_readE 1 = .ok (.invokevirtual 155, 3) := by decide +kernel
theorem dX12_readE_4 : decode cX12_readE 4 = .ok (.aload_n 0, 1) := by decide +kernel
theorem dX12_readE_5 : decode cX12_readE 5 = .ok (.bipush 43, 2) := by decide +kernel
theorem dX12_readE_7 : decode cX12_readE 7 = .ok (.invokevirtual 55, 3) := by decide +kernel
theorem dX12_readE_10 : decode cX12_readE 10 = .ok (.ifCond .ne 12, 3) := by decide +kernel
theorem dX12_readE_13 : decode cX12_readE 13 = .ok (.aload_n 0, 1) := by decide +kernel
theorem dX12_readE_14 : decode cX12_readE 14 = .ok (.bipush 45, 2) := by decide +kernel
theorem dX12_readE_16 : decode cX12_readE 16 = .ok (.invokevirtual 55, 3) := by decide +kernel
theorem dX12_readE_19 : decode cX12_readE 19 = .ok (.ifCond .eq 24, 3) := by decide +kernel
theorem dX12_readE_22 : decode cX12_readE 22 = .ok (.aload_n 0, 1) := by decide +kernel
theorem dX12_readE_23 : decode cX12_readE 23 = .ok (.aload_n 0, 1) := by decide +kernel
theorem dX12_readE_24 : decode cX12_readE 24 = .ok (.getfield 45, 3) := by decide +kernel
theorem dX12_readE_27 : decode cX12_readE 27 = .ok (.aload_n 0, 1) := by decide +kernel
theorem dX12_readE_28 : decode cX12_readE 28 = .ok (.getfield 49, 3) := by decide +kernel
theorem dX12_readE_31 : decode cX12_readE 31 = .ok (.laload, 1) := by decide +kernel
theorem dX12_readE_32 : decode cX12_readE 32 = .ok (.l2i, 1) := by decide +kernel
theorem dX12_readE_33 : decode cX12_readE 33 = .ok (.invokevirtual 158, 3) := by decide +kernel
theorem dX12_readE_36 : decode cX12_readE 36 = .ok (.aload_n 0, 1) := by decide +kernel
theorem dX12_readE_37 : decode cX12_readE 37 = .ok (.invokevirtual 155, 3) := by decide +kernel
theorem dX12_readE_40 : decode cX12_readE 40 = .ok (.goto (-36), 3) := by decide +kernel
theorem dX12_readE_43 : decode cX12_readE 43 = .ok (.return_, 1) := by decide +kernel
theorem dX12_readProduct_0 : decode cX12_readProduct 0 = .ok (.aload_n 0, 1) := by decide +kernel
theorem dX12_readProduct_1 : decode cX12_readProduct 1 = .ok (.invokevirtual 161, 3) := by decide +kernel
theorem dX12_readProduct_4 : decode cX12_readProduct 4 = .ok (.aload_n 0, 1) := by decide +kernel
theorem dX12_readProduct_5 : decode cX12_readProduct 5 = .ok (.bipush 42, 2) := by decide +kernel
theorem dX12_readProduct_7 : decode cX12_readProduct 7 = .ok (.invokevirtual 55, 3) := by decide +kernel
theorem dX12_readProduct_10 : decode cX12_readProduct 10 = .ok (.ifCond .ne 12, 3) := by decide +kernel
theorem dX12_readProduct_13 : decode cX12_readProduct 13 = .ok (.aload_n 0, 1) := by decide +kernel
theorem dX12_readProduct_14 : decode cX12_readProduct 14 = .ok (.bipush 47, 2) := by decide +kernel
theorem dX12_readProduct_16 : decode cX12_readProduct 16 = .ok (.invokevirtual 55, 3) := by decide +kernel
theorem dX12_readProduct_19 : decode cX12_readProduct 19 = .ok (.ifCond .eq 24, 3) := by decide +kernel
theorem dX12_readProduct_22 : decode cX12_readProduct 22 = .ok (.aload_n 0, 1) := by decide +kernel
theorem dX12_readProduct_23 : decode cX12_readProduct 23 = .ok (.aload_n 0, 1) := by decide +kernel
theorem dX12_readProduct_24 : decode cX12_readProduct 24 = .ok (.getfield 45, 3) := by decide +kernel
theorem dX12_readProduct_27 : decode cX12_readProduct 27 = .ok (.aload_n 0, 1) := by decide +kernel
theorem dX12_readProduct_28 : decode cX12_readProduct 28 = .ok (.getfield 49, 3) := by decide +kernel
theorem dX12_readProduct_31 : decode cX12_readProduct 31 = .ok (.laload, 1) := by decide +kernel
theorem dX12_readProduct_32 : decode cX12_readProduct 32 = .ok (.l2i, 1) := by decide +kernel
theorem dX12_readProduct_33 : decode cX12_readProduct 33 = .ok (.invokevirtual 158, 3) := by decide +kernel
theorem dX12_readProduct_36 : decode cX12_readProduct 36 = .ok (.aload_n 0, 1) := by decide +kernel
theorem dX12_readProduct_37 : decode cX12_readProduct 37 = .ok (.invokevirtual 161, 3) := by decide +kernel
theorem dX12_readProduct_40 : decode cX12_readProduct 40 = .ok (.goto (-36), 3) := by decide +kernel
theorem dX12_readProduct_43 : decode cX12_readProduct 43 = .ok (.return_, 1) := by decide +kernel
theorem dX12_isPart_0 : decode cX12_isPart 0 = .ok (.aload_n 0, 1) := by decide +kernel
theorem dX12_isPart_1 : decode cX12_isPart 1 = .ok (.getfield 52, 3) := by decide +kernel
theorem dX12_isPart_4 : decode cX12_isPart 4 = .ok (.ifCond .ne 61, 3) := by decide +kernel
theorem dX12_isPart_7 : decode cX12_isPart 7 = .ok (.aload_n 0, 1) := by decide +kernel
theorem dX12_isPart_8 : decode cX12_isPart 8 = .ok (.getfield 32, 3) := by decide +kernel
theorem dX12_isPart_11 : decode cX12_isPart 11 = .ok (.aload_n 0, 1) := by decide +kernel
theorem dX12_isPart_12 : decode cX12_isPart 12 = .ok (.getfield 49, 3) := by decide +kernel
theorem dX12_isPart_15 : decode cX12_isPart 15 = .ok (.iaload, 1) := by decide +kernel
theorem dX12_isPart_16 : decode cX12_isPart 16 = .ok (.iconst 2, 1) := by decide +kernel
theorem dX12_isPart_17 : decode cX12_isPart 17 = .ok (.if_icmp .eq 44, 3) := by decide +kernel
theorem dX12_isPart_20 : decode cX12_isPart 20 = .ok (.aload_n 0, 1) := by decide +kernel
theorem dX12_isPart_21 : decode cX12_isPart 21 = .ok (.invokevirtual 164, 3) := by decide +kernel
theorem dX12_isPart_24 : decode cX12_isPart 24 = .ok (.ifCond .ne 37, 3) := by decide +kernel
theorem dX12_isPart_27 : decode cX12_isPart 27 = .ok (.aload_n 0, 1) := by decide +kernel
theorem dX12_isPart_28 : decode cX12_isPart 28 = .ok (.invokevirtual 168, 3) := by decide +kernel
theorem dX12_isPart_31 : decode cX12_isPart 31 = .ok (.ifCond .ne 30, 3) := by decide +kernel
theorem dX12_isPart_34 : decode cX12_isPart 34 = .ok (.aload_n 0, 1) := by decide +kernel
theorem dX12_isPart_35 : decode cX12_isPart 35 = .ok (.bipush 36, 2) := by decide +kernel
theorem dX12_isPart_37 : decode cX12_isPart 37 = .ok (.invokevirtual 55, 3) := by decide +kernel
theorem dX12_isPart_40 : decode cX12_isPart 40 = .ok (.ifCond .ne 21, 3) := by decide +kernel
theorem dX12_isPart_43 : decode cX12_isPart 43 = .ok (.aload_n 0, 1) := by decide +kernel
theorem dX12_isPart_44 : decode cX12_isPart 44 = .ok (.bipush 40, 2) := by decide +kernel
theorem dX12_isPart_46 : decode cX12_isPart 46 = .ok (.invokevirtual 55, 3) := by decide +kernel
theorem dX12_isPart_49 : decode cX12_isPart 49 = .ok (.ifCond .ne 12, 3) := by decide +kernel
theorem dX12_isPart_52 : decode cX12_isPart 52 = .ok (.aload_n 0, 1) := by decide +kernel
theorem dX12_isPart_53 : decode cX12_isPart 53 = .ok (.bipush 45, 2) := by decide +kernel
theorem dX12_isPart_55 : decode cX12_isPart 55 = .ok (.invokevirtual 55, 3) := by decide +kernel
theorem dX12_isPart_58 : decode cX12_isPart 58 = .ok (.ifCond .eq 7, 3) := by decide +kernel
theorem dX12_isPart_61 : decode cX12_isPart 61 = .ok (.iconst 1, 1) := by decide +kernel
theorem dX12_isPart_62 : decode cX12_isPart 62 = .ok (.goto 4, 3) := by decide +kernel
theorem dX12_isPart_65 : decode cX12_isPart 65 = .ok (.iconst 0, 1) := by decide +kernel
theorem dX12_isPart_66 : decode cX12_isPart 66 = .ok (.ireturn, 1) := by decide +kernel
theorem dX12_readPart_0 : decode cX12_readPart 0 = .ok (.aload_n 0, 1) := by decide +kernel
theorem dX12_readPart_1 : decode cX12_readPart 1 = .ok (.invokevirtual 171, 3) := by decide +kernel
theorem dX12_readPart_4 : decode cX12_readPart 4 = .ok (.ifCond .ne 11, 3) := by decide +kernel
theorem dX12_readPart_7 : decode cX12_readPart 7 = .ok (.aload_n 0, 1) := by decide +kernel
theorem dX12_readPart_8 : decode cX12_readPart 8 = .ok (.iconst 1, 1) := by decide +kernel
theorem dX12_readPart_9 : decode cX12_readPart 9 = .ok (.invokevirtual 147, 3) := by decide +kernel
theorem dX12_readPart_12 : decode cX12_readPart 12 = .ok (.goto 17, 3) := by decide +kernel
theorem dX12_readPart_15 : decode cX12_readPart 15 = .ok (.aload_n 0, 1) := by decide +kernel
theorem dX12_readPart_16 : decode cX12_readPart 16 = .ok (.getfield 174, 3) := by decide +kernel
theorem dX12_readPart_19 : decode cX12_readPart 19 = .ok (.bipush 8, 2) := by decide +kernel
theorem dX12_readPart_21 : decode cX12_readPart 21 = .ok (.if_icmp .ne 8, 3) := by decide +kernel
theorem dX12_readPart_24 : decode cX12_readPart 24 = .ok (.aload_n 0, 1) := by decide +kernel
theorem dX12_readPart_25 : decode cX12_readPart 25 = .ok (.iconst 5, 1) := by decide +kernel
theorem dX12_readPart_26 : decode cX12_readPart 26 = .ok (.invokevirtual 147, 3) := by decide +kernel
theorem dX12_readPart_29 : decode cX12_readPart 29 = .ok (.aload_n 0, 1) := by decide +kernel
theorem dX12_readPart_30 : decode cX12_readPart 30 = .ok (.getfield 52, 3) := by decide +kernel
theorem dX12_readPart_33 : decode cX12_readPart 33 = .ok (.ifCond .le 4, 3) := by decide +kernel
theorem dX12_readPart_36 : decode cX12_readPart 36 = .ok (.return_, 1) := by decide +kernel
theorem dX12_readPart_37 : decode cX12_readPart 37 = .ok (.aload_n 0, 1) := by decide +kernel
theorem dX12_readPart_38 : decode cX12_readPart 38 = .ok (.dup, 1) := by decide +kernel
theorem dX12_readPart_39 : decode cX12_readPart 39 = .ok (.getfield 174, 3) := by decide +kernel
theorem dX12_readPart_42 : decode cX12_readPart 42 = .ok (.iconst 1, 1) := by decide +kernel
theorem dX12_readPart_43 : decode cX12_readPart 43 = .ok (.iadd, 1) := by decide +kernel
theorem dX12_readPart_44 : decode cX12_readPart 44 = .ok (.putfield 174, 3) := by decide +kernel
theorem dX12_readPart_47 : decode cX12_readPart 47 = .ok (.aload_n 0, 1) := by decide +kernel
theorem dX12_readPart_48 : decode cX12_readPart 48 = .ok (.getfield 32, 3) := by decide +kernel
theorem dX12_readPart_51 : decode cX12_readPart 51 = .ok (.aload_n 0, 1) := by decide +kernel
theorem dX12_readPart_52 : decode cX12_readPart 52 = .ok (.getfield 49, 3) := by decide +kernel
theorem dX12_readPart_55 : decode cX12_readPart 55 = .ok (.iaload, 1) := by decide +kernel
theorem dX12_readPart_56 : decode cX12_readPart 56 = .ok (.iconst 2, 1) := by decide +kernel
theorem dX12_readPart_57 : decode cX12_readPart 57 = .ok (.if_icmp .ne 33, 3) := by decide +kernel
theorem dX12_readPart_60 : decode cX12_readPart 60 = .ok (.aload_n 0, 1) := by decide +kernel
theorem dX12_readPart_61 : decode cX12_readPart 61 = .ok (.iconst 0, 1) := by decide +kernel
theorem dX12_readPart_62 : decode cX12_readPart 62 = .ok (.aload_n 0, 1) := by decide +kernel
theorem dX12_readPart_63 : decode cX12_readPart 63 = .ok (.getfield 45, 3) := by decide +kernel
theorem dX12_readPart_66 : decode cX12_readPart 66 = .ok (.aload_n 0, 1) := by decide +kernel
theorem dX12_readPart_67 : decode cX12_readPart 67 = .ok (.getfield 49, 3) := by decide +kernel
theorem dX12_readPart_70 : decode cX12_readPart 70 = .ok (.laload, 1) := by decide +kernel
theorem dX12_readPart_71 : decode cX12_readPart 71 = .ok (.l2i, 1) := by decide +kernel
theorem dX12_readPart_72 : decode cX12_readPart 72 = .ok (.iconst 0, 1) := by decide +kernel
theorem dX12_readPart_73 : decode cX12_readPart 73 = .ok (.iconst 0, 1) := by decide +kernel
theorem dX12_readPart_74 : decode cX12_readPart 74 = .ok (.invokevirtual 143, 3) := by decide +kernel
theorem dX12_readPart_77 : decode cX12_readPart 77 = .ok (.aload_n 0, 1) := by decide +kernel
theorem dX12_readPart_78 : decode cX12_readPart 78 = .ok (.dup, 1) := by decide +kernel
theorem dX12_readPart_79 : decode cX12_readPart 79 = .ok (.getfield 49, 3) := by decide +kernel
theorem dX12_readPart_82 : decode cX12_readPart 82 = .ok (.iconst 1, 1) := by decide +kernel
theorem dX12_readPart_83 : decode cX12_readPart 83 = .ok (.iadd, 1) := by decide +kernel
theorem dX12_readPart_84 : decode cX12_readPart 84 = .ok (.putfield 49, 3) := by decide +kernel
theorem dX12_readPart_87 : decode cX12_readPart 87 = .ok (.goto 126, 3) := by decide +kernel
theorem dX12_readPart_90 : decode cX12_readPart 90 = .ok (.aload_n 0, 1) := by decide +kernel
theorem dX12_readPart_91 : decode cX12_readPart 91 = .ok (.invokevirtual 168, 3) := by decide +kernel
theorem dX12_readPart_94 : decode cX12_readPart 94 = .ok (.ifCond .eq 64, 3) := by decide +kernel
theorem dX12_readPart_97 : decode cX12_readPart 97 = .ok (.aload_n 0, 1) := by decide +kernel
theorem dX12_readPart_98 : decode cX12_readPart 98 = .ok (.dup, 1) := by decide +kernel
theorem dX12_readPart_99 : decode cX12_readPart 99 = .ok (.getfield 49, 3) := by decide +kernel
theorem dX12_readPart_102 : decode cX12_readPart 102 = .ok (.iconst 1, 1) := by decide +kernel
theorem dX12_readPart_103 : decode cX12_readPart 103 = .ok (.iadd, 1) := by decide +kernel
theorem dX12_readPart_104 : decode cX12_readPart 104 = .ok (.putfield 49, 3) := by decide +kernel
theorem dX12_readPart_107 : decode cX12_readPart 107 = .ok (.aload_n 0, 1) := by decide +kernel
theorem dX12_readPart_108 : decode cX12_readPart 108 = .ok (.iconst 2, 1) := by decide +kernel
theorem dX12_readPart_109 : decode cX12_readPart 109 = .ok (.iconst 0, 1) := by decide +kernel
theorem dX12_readPart_110 : decode cX12_readPart 110 = .ok (.iconst 0, 1) := by decide +kernel
theorem dX12_readPart_111 : decode cX12_readPart 111 = .ok (.iconst 0, 1) := by decide +kernel
theorem dX12_readPart_112 : decode cX12_readPart 112 = .ok (.invokevirtual 143, 3) := by decide +kernel
theorem dX12_readPart_115 : decode cX12_readPart 115 = .ok (.aload_n 0, 1) := by decide +kernel
theorem dX12_readPart_116 : decode cX12_readPart 116 = .ok (.bipush 40, 2) := by decide +kernel
theorem dX12_readPart_118 : decode cX12_readPart 118 = .ok (.invokevirtual 158, 3) := by decide +kernel
theorem dX12_readPart_121 : decode cX12_readPart 121 = .ok (.ldc 142, 2) := by decide +kernel
theorem dX12_readPart_123 : decode cX12_readPart 123 = .ok (.aload_n 0, 1) := by decide +kernel
theorem dX12_readPart_124 : decode cX12_readPart 124 = .ok (.getfield 77, 3) := by decide +kernel
theorem dX12_readPart_127 : decode cX12_readPart 127 = .ok (.sipush 288, 3) := by decide +kernel
theorem dX12_readPart_130 : decode cX12_readPart 130 = .ok (.iaload, 1) := by decide +kernel
theorem dX12_readPart_131 : decode cX12_readPart 131 = .ok (.iadd, 1) := by decide +kernel
theorem dX12_readPart_132 : decode cX12_readPart 132 = .ok (.istore_n 1, 1) := by decide +kernel
theorem dX12_readPart_133 : decode cX12_readPart 133 = .ok (.aload_n 0, 1) := by decide +kernel
theorem dX12_readPart_134 : decode cX12_readPart 134 = .ok (.iconst (-1), 1) := by decide +kernel
theorem dX12_readPart_135 : decode cX12_readPart 135 = .ok (.invokevirtual 177, 3) := by decide +kernel
theorem dX12_readPart_138 : decode cX12_readPart 138 = .ok (.aload_n 0, 1) := by decide +kernel
theorem dX12_readPart_139 : decode cX12_readPart 139 = .ok (.bipush 58, 2) := by decide +kernel
theorem dX12_readPart_141 : decode cX12_readPart 141 = .ok (.invokevirtual 158, 3) := by decide +kernel
theorem dX12_readPart_144 : decode cX12_readPart 144 = .ok (.aload_n 0, 1) := by decide +kernel
theorem dX12_readPart_145 : decode cX12_readPart 145 = .ok (.iload_n 1, 1) := by decide +kernel
theorem dX12_readPart_146 : decode cX12_readPart 146 = .ok (.invokevirtual 177, 3) := by decide +kernel
theorem dX12_readPart_149 : decode cX12_readPart 149 = .ok (.aload_n 0, 1) := by decide +kernel
theorem dX12_readPart_150 : decode cX12_readPart 150 = .ok (.bipush 41, 2) := by decide +kernel
theorem dX12_readPart_152 : decode cX12_readPart 152 = .ok (.invokevirtual 158, 3) := by decide +kernel
theorem dX12_readPart_155 : decode cX12_readPart 155 = .ok (.goto 58, 3) := by decide +kernel
theorem dX12_readPart_158 : decode cX12_readPart 158 = .ok (.aload_n 0, 1) := by decide +kernel
theorem dX12_readPart_159 : decode cX12_readPart 159 = .ok (.bipush 40, 2) := by decide +kernel
theorem dX12_readPart_161 : decode cX12_readPart 161 = .ok (.invokevirtual 55, 3) := by decide +kernel
theorem dX12_readPart_164 : decode cX12_readPart 164 = .ok (.ifCond .eq 22, 3) := by decide +kernel
theorem dX12_readPart_167 : decode cX12_readPart 167 = .ok (.aload_n 0, 1) := by decide +kernel
theorem dX12_readPart_168 : decode cX12_readPart 168 = .ok (.bipush 40, 2) := by decide +kernel
theorem dX12_readPart_170 : decode cX12_readPart 170 = .ok (.invokevirtual 158, 3) := by decide +kernel
theorem dX12_readPart_173 : decode cX12_readPart 173 = .ok (.aload_n 0, 1) := by decide +kernel
theorem dX12_readPart_174 : decode cX12_readPart 174 = .ok (.invokevirtual 180, 3) := by decide +kernel
theorem dX12_readPart_177 : decode cX12_readPart 177 = .ok (.aload_n 0, 1) := by decide +kernel
theorem dX12_readPart_178 : decode cX12_readPart 178 = .ok (.bipush 41, 2) := by decide +kernel
theorem dX12_readPart_180 : decode cX12_readPart 180 = .ok (.invokevirtual 158, 3) := by decide +kernel
theorem dX12_readPart_183 : decode cX12_readPart 183 = .ok (.goto 30, 3) := by decide +kernel
theorem dX12_readPart_186 : decode cX12_readPart 186 = .ok (.aload_n 0, 1) := by decide +kernel
theorem dX12_readPart_187 : decode cX12_readPart 187 = .ok (.bipush 45, 2) := by decide +kernel
theorem dX12_readPart_189 : decode cX12_readPart 189 = .ok (.invokevirtual 55, 3) := by decide +kernel
theorem dX12_readPart_192 : decode cX12_readPart 192 = .ok (.ifCond .eq 16, 3) := by decide +kernel
theorem dX12_readPart_195 : decode cX12_readPart 195 = .ok (.aload_n 0, 1) := by decide +kernel
theorem dX12_readPart_196 : decode cX12_readPart 196 = .ok (.bipush 45, 2) := by decide +kernel
theorem dX12_readPart_198 : decode cX12_readPart 198 = .ok (.invokevirtual 158, 3) := by decide +kernel
theorem dX12_readPart_201 : decode cX12_readPart 201 = .ok (.aload_n 0, 1) := by decide +kernel
theorem dX12_readPart_202 : decode cX12_readPart 202 = .ok (.invokevirtual 161, 3) := by decide +kernel
theorem dX12_readPart_205 : decode cX12_readPart 205 = .ok (.goto 8, 3) := by decide +kernel
theorem dX12_readPart_208 : decode cX12_readPart 208 = .ok (.aload_n 0, 1) := by decide +kernel
theorem dX12_readPart_209 : decode cX12_readPart 209 = .ok (.iconst (-1), 1) := by decide +kernel
theorem dX12_readPart_210 : decode cX12_readPart 210 = .ok (.invokevirtual 177, 3) := by decide +kernel
theorem dX12_readPart_213 : decode cX12_readPart 213 = .ok (.aload_n 0, 1) := by decide +kernel
theorem dX12_readPart_214 : decode cX12_readPart 214 = .ok (.dup, 1) := by decide +kernel
theorem dX12_readPart_215 : decode cX12_readPart 215 = .ok (.getfield 174, 3) := by decide +kernel
theorem dX12_readPart_218 : decode cX12_readPart 218 = .ok (.iconst 1, 1) := by decide +kernel
theorem dX12_readPart_219 : decode cX12_readPart 219 = .ok (.isub, 1) := by decide +kernel
theorem dX12_readPart_220 : decode cX12_readPart 220 = .ok (.putfield 174, 3) := by decide +kernel
theorem dX12_readPart_223 : decode cX12_readPart 223 = .ok (.return_, 1) := by decide +kernel
theorem dX12_copyRow_0 : decode cX12_copyRow 0 = .ok (.aload_n 0, 1) := by decide +kernel
theorem dX12_copyRow_1 : decode cX12_copyRow 1 = .ok (.getfield 80, 3) := by decide +kernel
theorem dX12_copyRow_4 : decode cX12_copyRow 4 = .ok (.iload_n 2, 1) := by decide +kernel
theorem dX12_copyRow_5 : decode cX12_copyRow 5 = .ok (.aload_n 0, 1) := by decide +kernel
theorem dX12_copyRow_6 : decode cX12_copyRow 6 = .ok (.getfield 80, 3) := by decide +kernel
theorem dX12_copyRow_9 : decode cX12_copyRow 9 = .ok (.iload_n 1, 1) := by decide +kernel
theorem dX12_copyRow_10 : decode cX12_copyRow 10 = .ok (.iaload, 1) := by decide +kernel
theorem dX12_copyRow_11 : decode cX12_copyRow 11 = .ok (.iastore, 1) := by decide +kernel
theorem dX12_copyRow_12 : decode cX12_copyRow 12 = .ok (.aload_n 0, 1) := by decide +kernel
theorem dX12_copyRow_13 : decode cX12_copyRow 13 = .ok (.getfield 83, 3) := by decide +kernel
theorem dX12_copyRow_16 : decode cX12_copyRow 16 = .ok (.iload_n 2, 1) := by decide +kernel
theorem dX12_copyRow_17 : decode cX12_copyRow 17 = .ok (.aload_n 0, 1) := by decide +kernel
theorem dX12_copyRow_18 : decode cX12_copyRow 18 = .ok (.getfield 83, 3) := by decide +kernel
theorem dX12_copyRow_21 : decode cX12_copyRow 21 = .ok (.iload_n 1, 1) := by decide +kernel
theorem dX12_copyRow_22 : decode cX12_copyRow 22 = .ok (.iaload, 1) := by decide +kernel
theorem dX12_copyRow_23 : decode cX12_copyRow 23 = .ok (.iastore, 1) := by decide +kernel
theorem dX12_copyRow_24 : decode cX12_copyRow 24 = .ok (.aload_n 0, 1) := by decide +kernel
theorem dX12_copyRow_25 : decode cX12_copyRow 25 = .ok (.getfield 77, 3) := by decide +kernel
theorem dX12_copyRow_28 : decode cX12_copyRow 28 = .ok (.iload_n 2, 1) := by decide +kernel
theorem dX12_copyRow_29 : decode cX12_copyRow 29 = .ok (.aload_n 0, 1) := by decide +kernel
theorem dX12_copyRow_30 : decode cX12_copyRow 30 = .ok (.getfield 77, 3) := by decide +kernel
theorem dX12_copyRow_33 : decode cX12_copyRow 33 = .ok (.iload_n 1, 1) := by decide +kernel
theorem dX12_copyRow_34 : decode cX12_copyRow 34 = .ok (.iaload, 1) := by decide +kernel
theorem dX12_copyRow_35 : decode cX12_copyRow 35 = .ok (.iastore, 1) := by decide +kernel
theorem dX12_copyRow_36 : decode cX12_copyRow 36 = .ok (.iconst 0, 1) := by decide +kernel
theorem dX12_copyRow_37 : decode cX12_copyRow 37 = .ok (.istore_n 3, 1) := by decide +kernel
theorem dX12_copyRow_38 : decode cX12_copyRow 38 = .ok (.iload_n 3, 1) := by decide +kernel
theorem dX12_copyRow_39 : decode cX12_copyRow 39 = .ok (.iconst 3, 1) := by decide +kernel
theorem dX12_copyRow_40 : decode cX12_copyRow 40 = .ok (.if_icmp .ge 29, 3) := by decide +kernel
theorem dX12_copyRow_43 : decode cX12_copyRow 43 = .ok (.aload_n 0, 1) := by decide +kernel
theorem dX12_copyRow_44 : decode cX12_copyRow 44 = .ok (.getfield 86, 3) := by decide +kernel
theorem dX12_copyRow_47 : decode cX12_copyRow 47 = .ok (.iconst 3, 1) := by decide +kernel
theorem dX12_copyRow_48 : decode cX12_copyRow 48 = .ok (.iload_n 2, 1) := by decide +kernel
theorem dX12_copyRow_49 : decode cX12_copyRow 49 = .ok (.imul, 1) := by decide +kernel
theorem dX12_copyRow_50 : decode cX12_copyRow 50 = .ok (.iload_n 3, 1) := by decide +kernel
theorem dX12_copyRow_51 : decode cX12_copyRow 51 = .ok (.iadd, 1) := by decide +kernel
theorem dX12_copyRow_52 : decode cX12_copyRow 52 = .ok (.aload_n 0, 1) := by decide +kernel
theorem dX12_copyRow_53 : decode cX12_copyRow 53 = .ok (.getfield 86, 3) := by decide +kernel
theorem dX12_copyRow_56 : decode cX12_copyRow 56 = .ok (.iconst 3, 1) := by decide +kernel
theorem dX12_copyRow_57 : decode cX12_copyRow 57 = .ok (.iload_n 1, 1) := by decide +kernel
theorem dX12_copyRow_58 : decode cX12_copyRow 58 = .ok (.imul, 1) := by decide +kernel
theorem dX12_copyRow_59 : decode cX12_copyRow 59 = .ok (.iload_n 3, 1) := by decide +kernel
theorem dX12_copyRow_60 : decode cX12_copyRow 60 = .ok (.iadd, 1) := by decide +kernel
theorem dX12_copyRow_61 : decode cX12_copyRow 61 = .ok (.iaload, 1) := by decide +kernel
theorem dX12_copyRow_62 : decode cX12_copyRow 62 = .ok (.iastore, 1) := by decide +kernel
theorem dX12_copyRow_63 : decode cX12_copyRow 63 = .ok (.iinc 3 1, 3) := by decide +kernel
theorem dX12_copyRow_66 : decode cX12_copyRow 66 = .ok (.goto (-28), 3) := by decide +kernel
theorem dX12_copyRow_69 : decode cX12_copyRow 69 = .ok (.iconst 0, 1) := by decide +kernel
theorem dX12_copyRow_70 : decode cX12_copyRow 70 = .ok (.istore_n 3, 1) := by decide +kernel
theorem dX12_copyRow_71 : decode cX12_copyRow 71 = .ok (.iload_n 3, 1) := by decide +kernel
theorem dX12_copyRow_72 : decode cX12_copyRow 72 = .ok (.aload_n 0, 1) := by decide +kernel
theorem dX12_copyRow_73 : decode cX12_copyRow 73 = .ok (.getfield 77, 3) := by decide +kernel
theorem dX12_copyRow_76 : decode cX12_copyRow 76 = .ok (.iload_n 1, 1) := by decide +kernel
theorem dX12_copyRow_77 : decode cX12_copyRow 77 = .ok (.iaload, 1) := by decide +kernel
theorem dX12_copyRow_78 : decode cX12_copyRow 78 = .ok (.if_icmp .ge 97, 3) := by decide +kernel
theorem dX12_copyRow_81 : decode cX12_copyRow 81 = .ok (.aload_n 0, 1) := by decide +kernel
theorem dX12_copyRow_82 : decode cX12_copyRow 82 = .ok (.getfield 65, 3) := by decide +kernel
theorem dX12_copyRow_85 : decode cX12_copyRow 85 = .ok (.bipush 120, 2) := by decide +kernel
theorem dX12_copyRow_87 : decode cX12_copyRow 87 = .ok (.iload_n 2, 1) := by decide +kernel
theorem dX12_copyRow_88 : decode cX12_copyRow 88 = .ok (.imul, 1) := by decide +kernel
theorem dX12_copyRow_89 : decode cX12_copyRow 89 = .ok (.iload_n 3, 1) := by decide +kernel
theorem dX12_copyRow_90 : decode cX12_copyRow 90 = .ok (.iadd, 1) := by decide +kernel
theorem dX12_copyRow_91 : decode cX12_copyRow 91 = .ok (.aload_n 0, 1) := by decide +kernel
theorem dX12_copyRow_92 : decode cX12_copyRow 92 = .ok (.getfield 65, 3) := by decide +kernel
theorem dX12_copyRow_95 : decode cX12_copyRow 95 = .ok (.bipush 120, 2) := by decide +kernel
theorem dX12_copyRow_97 : decode cX12_copyRow 97 = .ok (.iload_n 1, 1) := by decide +kernel
theorem dX12_copyRow_98 : decode cX12_copyRow 98 = .ok (.imul, 1) := by decide +kernel
theorem dX12_copyRow_99 : decode cX12_copyRow 99 = .ok (.iload_n 3, 1) := by decide +kernel
theorem dX12_copyRow_100 : decode cX12_copyRow 100 = .ok (.iadd, 1) := by decide +kernel
theorem dX12_copyRow_101 : decode cX12_copyRow 101 = .ok (.iaload, 1) := by decide +kernel
theorem dX12_copyRow_102 : decode cX12_copyRow 102 = .ok (.iastore, 1) := by decide +kernel
theorem dX12_copyRow_103 : decode cX12_copyRow 103 = .ok (.aload_n 0, 1) := by decide +kernel
theorem dX12_copyRow_104 : decode cX12_copyRow 104 = .ok (.getfield 68, 3) := by decide +kernel
theorem dX12_copyRow_107 : decode cX12_copyRow 107 = .ok (.bipush 120, 2) := by decide +kernel
theorem dX12_copyRow_109 : decode cX12_copyRow 109 = .ok (.iload_n 2, 1) := by decide +kernel
theorem dX12_copyRow_110 : decode cX12_copyRow 110 = .ok (.imul, 1) := by decide +kernel
theorem dX12_copyRow_111 : decode cX12_copyRow 111 = .ok (.iload_n 3, 1) := by decide +kernel
theorem dX12_copyRow_112 : decode cX12_copyRow 112 = .ok (.iadd, 1) := by decide +kernel
theorem dX12_copyRow_113 : decode cX12_copyRow 113 = .ok (.aload_n 0, 1) := by decide +kernel
theorem dX12_copyRow_114 : decode cX12_copyRow 114 = .ok (.getfield 68, 3) := by decide +kernel
theorem dX12_copyRow_117 : decode cX12_copyRow 117 = .ok (.bipush 120, 2) := by decide +kernel
theorem dX12_copyRow_119 : decode cX12_copyRow 119 = .ok (.iload_n 1, 1) := by decide +kernel
theorem dX12_copyRow_120 : decode cX12_copyRow 120 = .ok (.imul, 1) := by decide +kernel
theorem dX12_copyRow_121 : decode cX12_copyRow 121 = .ok (.iload_n 3, 1) := by decide +kernel
theorem dX12_copyRow_122 : decode cX12_copyRow 122 = .ok (.iadd, 1) := by decide +kernel
theorem dX12_copyRow_123 : decode cX12_copyRow 123 = .ok (.iaload, 1) := by decide +kernel
theorem dX12_copyRow_124 : decode cX12_copyRow 124 = .ok (.iastore, 1) := by decide +kernel
theorem dX12_copyRow_125 : decode cX12_copyRow 125 = .ok (.aload_n 0, 1) := by decide +kernel
theorem dX12_copyRow_126 : decode cX12_copyRow 126 = .ok (.getfield 71, 3) := by decide +kernel
theorem dX12_copyRow_129 : decode cX12_copyRow 129 = .ok (.bipush 120, 2) := by decide +kernel
theorem dX12_copyRow_131 : decode cX12_copyRow 131 = .ok (.iload_n 2, 1) := by decide +kernel
theorem dX12_copyRow_132 : decode cX12_copyRow 132 = .ok (.imul, 1) := by decide +kernel
theorem dX12_copyRow_133 : decode cX12_copyRow 133 = .ok (.iload_n 3, 1) := by decide +kernel
theorem dX12_copyRow_134 : decode cX12_copyRow 134 = .ok (.iadd, 1) := by decide +kernel
theorem dX12_copyRow_135 : decode cX12_copyRow 135 = .ok (.aload_n 0, 1) := by decide +kernel
theorem dX12_copyRow_136 : decode cX12_copyRow 136 = .ok (.getfield 71, 3) := by decide +kernel
theorem dX12_copyRow_139 : decode cX12_copyRow 139 = .ok (.bipush 120, 2) := by decide +kernel
theorem dX12_copyRow_141 : decode cX12_copyRow 141 = .ok (.iload_n 1, 1) := by decide +kernel
theorem dX12_copyRow_142 : decode cX12_copyRow 142 = .ok (.imul, 1) := by decide +kernel
theorem dX12_copyRow_143 : decode cX12_copyRow 143 = .ok (.iload_n 3, 1) := by decide +kernel
theorem dX12_copyRow_144 : decode cX12_copyRow 144 = .ok (.iadd, 1) := by decide +kernel
theorem dX12_copyRow_145 : decode cX12_copyRow 145 = .ok (.iaload, 1) := by decide +kernel
theorem dX12_copyRow_146 : decode cX12_copyRow 146 = .ok (.iastore, 1) := by decide +kernel
theorem dX12_copyRow_147 : decode cX12_copyRow 147 = .ok (.aload_n 0, 1) := by decide +kernel
theorem dX12_copyRow_148 : decode cX12_copyRow 148 = .ok (.getfield 74, 3) := by decide +kernel
theorem dX12_copyRow_151 : decode cX12_copyRow 151 = .ok (.bipush 120, 2) := by decide +kernel
theorem dX12_copyRow_153 : decode cX12_copyRow 153 = .ok (.iload_n 2, 1) := by decide +kernel
theorem dX12_copyRow_154 : decode cX12_copyRow 154 = .ok (.imul, 1) := by decide +kernel
theorem dX12_copyRow_155 : decode cX12_copyRow 155 = .ok (.iload_n 3, 1) := by decide +kernel
theorem dX12_copyRow_156 : decode cX12_copyRow 156 = .ok (.iadd, 1) := by decide +kernel
theorem dX12_copyRow_157 : decode cX12_copyRow 157 = .ok (.aload_n 0, 1) := by decide +kernel
theorem dX12_copyRow_158 : decode cX12_copyRow 158 = .ok (.getfield 74, 3) := by decide +kernel
theorem dX12_copyRow_161 : decode cX12_copyRow 161 = .ok (.bipush 120, 2) := by decide +kernel
theorem dX12_copyRow_163 : decode cX12_copyRow 163 = .ok (.iload_n 1, 1) := by decide +kernel
theorem dX12_copyRow_164 : decode cX12_copyRow 164 = .ok (.imul, 1) := by decide +kernel
theorem dX12_copyRow_165 : decode cX12_copyRow 165 = .ok (.iload_n 3, 1) := by decide +kernel
theorem dX12_copyRow_166 : decode cX12_copyRow 166 = .ok (.iadd, 1) := by decide +kernel
theorem dX12_copyRow_167 : decode cX12_copyRow 167 = .ok (.iaload, 1) := by decide +kernel
theorem dX12_copyRow_168 : decode cX12_copyRow 168 = .ok (.iastore, 1) := by decide +kernel
theorem dX12_copyRow_169 : decode cX12_copyRow 169 = .ok (.iinc 3 1, 3) := by decide +kernel
theorem dX12_copyRow_172 : decode cX12_copyRow 172 = .ok (.goto (-101), 3) := by decide +kernel
theorem dX12_copyRow_175 : decode cX12_copyRow 175 = .ok (.return_, 1) := by decide +kernel
theorem dX12_clearDraft_0 : decode cX12_clearDraft 0 = .ok (.aload_n 0, 1) := by decide +kernel
theorem dX12_clearDraft_1 : decode cX12_clearDraft 1 = .ok (.getfield 80, 3) := by decide +kernel
theorem dX12_clearDraft_4 : decode cX12_clearDraft 4 = .ok (.sipush 288, 3) := by decide +kernel
theorem dX12_clearDraft_7 : decode cX12_clearDraft 7 = .ok (.iload_n 1, 1) := by decide +kernel
theorem dX12_clearDraft_8 : decode cX12_clearDraft 8 = .ok (.iastore, 1) := by decide +kernel
theorem dX12_clearDraft_9 : decode cX12_clearDraft 9 = .ok (.aload_n 0, 1) := by decide +kernel
theorem dX12_clearDraft_10 : decode cX12_clearDraft 10 = .ok (.getfield 83, 3) := by decide +kernel
theorem dX12_clearDraft_13 : decode cX12_clearDraft 13 = .ok (.sipush 288, 3) := by decide +kernel
theorem dX12_clearDraft_16 : decode cX12_clearDraft 16 = .ok (.iload_n 2, 1) := by decide +kernel
theorem dX12_clearDraft_17 : decode cX12_clearDraft 17 = .ok (.iastore, 1) := by decide +kernel
theorem dX12_clearDraft_18 : decode cX12_clearDraft 18 = .ok (.aload_n 0, 1) := by decide +kernel
theorem dX12_clearDraft_19 : decode cX12_clearDraft 19 = .ok (.getfield 77, 3) := by decide +kernel
theorem dX12_clearDraft_22 : decode cX12_clearDraft 22 = .ok (.sipush 288, 3) := by decide +kernel
theorem dX12_clearDraft_25 : decode cX12_clearDraft 25 = .ok (.iconst 0, 1) := by decide +kernel
theorem dX12_clearDraft_26 : decode cX12_clearDraft 26 = .ok (.iastore, 1) := by decide +kernel
theorem dX12_clearDraft_27 : decode cX12_clearDraft 27 = .ok (.iconst 0, 1) := by decide +kernel
theorem dX12_clearDraft_28 : decode cX12_clearDraft 28 = .ok (.istore_n 3, 1) := by decide +kernel
theorem dX12_clearDraft_29 : decode cX12_clearDraft 29 = .ok (.iload_n 3, 1) := by decide +kernel
theorem dX12_clearDraft_30 : decode cX12_clearDraft 30 = .ok (.iconst 3, 1) := by decide +kernel
theorem dX12_clearDraft_31 : decode cX12_clearDraft 31 = .ok (.if_icmp .ge 20, 3) := by decide +kernel
theorem dX12_clearDraft_34 : decode cX12_clearDraft 34 = .ok (.aload_n 0, 1) := by decide +kernel
theorem dX12_clearDraft_35 : decode cX12_clearDraft 35 = .ok (.getfield 86, 3) := by decide +kernel
theorem dX12_clearDraft_38 : decode cX12_clearDraft 38 = .ok (.sipush 864, 3) := by decide +kernel
theorem dX12_clearDraft_41 : decode cX12_clearDraft 41 = .ok (.iload_n 3, 1) := by decide +kernel
theorem dX12_clearDraft_42 : decode cX12_clearDraft 42 = .ok (.iadd, 1) := by decide +kernel
theorem dX12_clearDraft_43 : decode cX12_clearDraft 43 = .ok (.iconst 0, 1) := by decide +kernel
theorem dX12_clearDraft_44 : decode cX12_clearDraft 44 = .ok (.iastore, 1) := by decide +kernel
theorem dX12_clearDraft_45 : decode cX12_clearDraft 45 = .ok (.iinc 3 1, 3) := by decide +kernel
theorem dX12_clearDraft_48 : decode cX12_clearDraft 48 = .ok (.goto (-19), 3) := by decide +kernel
theorem dX12_clearDraft_51 : decode cX12_clearDraft 51 = .ok (.return_, 1) := by decide +kernel
theorem dX12_puts_0 : decode cX12_puts 0 = .ok (.aload_n 0, 1) := by decide +kernel
theorem dX12_puts_1 : decode cX12_puts 1 = .ok (.getfield 188, 3) := by decide +kernel
theorem dX12_puts_4 : decode cX12_puts 4 = .ok (.bipush 20, 2) := by decide +kernel
theorem dX12_puts_6 : decode cX12_puts 6 = .ok (.if_icmp .ne 55, 3) := by decide +kernel
theorem dX12_puts_9 : decode cX12_puts 9 = .ok (.iconst 1, 1) := by decide +kernel
theorem dX12_puts_10 : decode cX12_puts 10 = .ok (.istore_n 2, 1) := by decide +kernel
theorem dX12_puts_11 : decode cX12_puts 11 = .ok (.iload_n 2, 1) := by decide +kernel
theorem dX12_puts_12 : decode cX12_puts 12 = .ok (.bipush 20, 2) := by decide +kernel
theorem dX12_puts_14 : decode cX12_puts 14 = .ok (.if_icmp .ge 37, 3) := by decide +kernel
theorem dX12_puts_17 : decode cX12_puts 17 = .ok (.aload_n 0, 1) := by decide +kernel
theorem dX12_puts_18 : decode cX12_puts 18 = .ok (.sipush 289, 3) := by decide +kernel
theorem dX12_puts_21 : decode cX12_puts 21 = .ok (.iload_n 2, 1) := by decide +kernel
theorem dX12_puts_22 : decode cX12_puts 22 = .ok (.iadd, 1) := by decide +kernel
theorem dX12_puts_23 : decode cX12_puts 23 = .ok (.sipush 288, 3) := by decide +kernel
theorem dX12_puts_26 : decode cX12_puts 26 = .ok (.iload_n 2, 1) := by decide +kernel
theorem dX12_puts_27 : decode cX12_puts 27 = .ok (.iadd, 1) := by decide +kernel
theorem dX12_puts_28 : decode cX12_puts 28 = .ok (.invokevirtual 191, 3) := by decide +kernel
theorem dX12_puts_31 : decode cX12_puts 31 = .ok (.aload_n 0, 1) := by decide +kernel
theorem dX12_puts_32 : decode cX12_puts 32 = .ok (.getfield 93, 3) := by decide +kernel
theorem dX12_puts_35 : decode cX12_puts 35 = .ok (.iload_n 2, 1) := by decide +kernel
theorem dX12_puts_36 : decode cX12_puts 36 = .ok (.iconst 1, 1) := by decide +kernel
theorem dX12_puts_37 : decode cX12_puts 37 = .ok (.isub, 1) := by decide +kernel
theorem dX12_puts_38 : decode cX12_puts 38 = .ok (.aload_n 0, 1) := by decide +kernel
theorem dX12_puts_39 : decode cX12_puts 39 = .ok (.getfield 93, 3) := by decide +kernel
theorem dX12_puts_42 : decode cX12_puts 42 = .ok (.iload_n 2, 1) := by decide +kernel
theorem dX12_puts_43 : decode cX12_puts 43 = .ok (.iaload, 1) := by decide +kernel
theorem dX12_puts_44 : decode cX12_puts 44 = .ok (.iastore, 1) := by decide +kernel
theorem dX12_puts_45 : decode cX12_puts 45 = .ok (.iinc 2 1, 3) := by decide +kernel
theorem dX12_puts_48 : decode cX12_puts 48 = .ok (.goto (-37), 3) := by decide +kernel
theorem dX12_puts_51 : decode cX12_puts 51 = .ok (.aload_n 0, 1) := by decide +kernel
theorem dX12_puts_52 : decode cX12_puts 52 = .ok (.dup, 1) := by decide +kernel
theorem dX12_puts_53 : decode cX12_puts 53 = .ok (.getfield 188, 3) := by decide +kernel
theorem dX12_puts_56 : decode cX12_puts 56 = .ok (.iconst 1, 1) := by decide +kernel
theorem dX12_puts_57 : decode cX12_puts 57 = .ok (.isub, 1) := by decide +kernel
theorem dX12_puts_58 : decode cX12_puts 58 = .ok (.putfield 188, 3) := by decide +kernel
theorem dX12_puts_61 : decode cX12_puts 61 = .ok (.aload_n 0, 1) := by decide +kernel
theorem dX12_puts_62 : decode cX12_puts 62 = .ok (.iload_n 1, 1) := by decide +kernel
theorem dX12_puts_63 : decode cX12_puts 63 = .ok (.sipush 289, 3) := by decide +kernel
theorem dX12_puts_66 : decode cX12_puts 66 = .ok (.aload_n 0, 1) := by decide +kernel
theorem dX12_puts_67 : decode cX12_puts 67 = .ok (.getfield 188, 3) := by decide +kernel
theorem dX12_puts_70 : decode cX12_puts 70 = .ok (.iadd, 1) := by decide +kernel
theorem dX12_puts_71 : decode cX12_puts 71 = .ok (.invokevirtual 191, 3) := by decide +kernel
theorem dX12_puts_74 : decode cX12_puts 74 = .ok (.aload_n 0, 1) := by decide +kernel
theorem dX12_puts_75 : decode cX12_puts 75 = .ok (.getfield 93, 3) := by decide +kernel
theorem dX12_puts_78 : decode cX12_puts 78 = .ok (.aload_n 0, 1) := by decide +kernel
theorem dX12_puts_79 : decode cX12_puts 79 = .ok (.getfield 188, 3) := by decide +kernel
theorem dX12_puts_82 : decode cX12_puts 82 = .ok (.iload_n 1, 1) := by decide +kernel
theorem dX12_puts_83 : decode cX12_puts 83 = .ok (.iastore, 1) := by decide +kernel
theorem dX12_puts_84 : decode cX12_puts 84 = .ok (.aload_n 0, 1) := by decide +kernel
theorem dX12_puts_85 : decode cX12_puts 85 = .ok (.dup, 1) := by decide +kernel
theorem dX12_puts_86 : decode cX12_puts 86 = .ok (.getfield 188, 3) := by decide +kernel
theorem dX12_puts_89 : decode cX12_puts 89 = .ok (.iconst 1, 1) := by decide +kernel
theorem dX12_puts_90 : decode cX12_puts 90 = .ok (.iadd, 1) := by decide +kernel
theorem dX12_puts_91 : decode cX12_puts 91 = .ok (.putfield 188, 3) := by decide +kernel
theorem dX12_puts_94 : decode cX12_puts 94 = .ok (.aload_n 0, 1) := by decide +kernel
theorem dX12_puts_95 : decode cX12_puts 95 = .ok (.sipush 288, 3) := by decide +kernel
theorem dX12_puts_98 : decode cX12_puts 98 = .ok (.iload_n 1, 1) := by decide +kernel
theorem dX12_puts_99 : decode cX12_puts 99 = .ok (.invokevirtual 191, 3) := by decide +kernel
theorem dX12_puts_102 : decode cX12_puts 102 = .ok (.aload_n 0, 1) := by decide +kernel
theorem dX12_puts_103 : decode cX12_puts 103 = .ok (.invokevirtual 195, 3) := by decide +kernel
theorem dX12_puts_106 : decode cX12_puts 106 = .ok (.return_, 1) := by decide +kernel
theorem dX12_isPlace_0 : decode cX12_isPlace 0 = .ok (.iload_n 0, 1) := by decide +kernel
theorem dX12_isPlace_1 : decode cX12_isPlace 1 = .ok (.ifCond .lt 14, 3) := by decide +kernel
theorem dX12_isPlace_4 : decode cX12_isPlace 4 = .ok (.iload_n 0, 1) := by decide +kernel
theorem dX12_isPlace_5 : decode cX12_isPlace 5 = .ok (.sipush 288, 3) := by decide +kernel
theorem dX12_isPlace_8 : decode cX12_isPlace 8 = .ok (.if_icmp .ge 7, 3) := by decide +kernel
theorem dX12_isPlace_11 : decode cX12_isPlace 11 = .ok (.iconst 1, 1) := by decide +kernel
theorem dX12_isPlace_12 : decode cX12_isPlace 12 = .ok (.goto 4, 3) := by decide +kernel
theorem dX12_isPlace_15 : decode cX12_isPlace 15 = .ok (.iconst 0, 1) := by decide +kernel
theorem dX12_isPlace_16 : decode cX12_isPlace 16 = .ok (.ireturn, 1) := by decide +kernel
theorem dX12_formula_0 : decode cX12_formula 0 = .ok (.aload_n 0, 1) := by decide +kernel
theorem dX12_formula_1 : decode cX12_formula 1 = .ok (.iconst 0, 1) := by decide +kernel
theorem dX12_formula_2 : decode cX12_formula 2 = .ok (.putfield 1, 3) := by decide +kernel
theorem dX12_formula_5 : decode cX12_formula 5 = .ok (.iload_n 1, 1) := by decide +kernel
theorem dX12_formula_6 : decode cX12_formula 6 = .ok (.invokestatic 198, 3) := by decide +kernel
theorem dX12_formula_9 : decode cX12_formula 9 = .ok (.ifCond .ne 10, 3) := by decide +kernel
theorem dX12_formula_12 : decode cX12_formula 12 = .ok (.aload_n 0, 1) := by decide +kernel
theorem dX12_formula_13 : decode cX12_formula 13 = .ok (.iconst 0, 1) := by decide +kernel
theorem dX12_formula_14 : decode cX12_formula 14 = .ok (.putfield 11, 3) := by decide +kernel
theorem dX12_formula_17 : decode cX12_formula 17 = .ok (.iconst (-1), 1) := by decide +kernel
theorem dX12_formula_18 : decode cX12_formula 18 = .ok (.ireturn, 1) := by decide +kernel
theorem dX12_formula_19 : decode cX12_formula 19 = .ok (.aload_n 0, 1) := by decide +kernel
theorem dX12_formula_20 : decode cX12_formula 20 = .ok (.invokevirtual 201, 3) := by decide +kernel
theorem dX12_formula_23 : decode cX12_formula 23 = .ok (.aload_n 0, 1) := by decide +kernel
theorem dX12_formula_24 : decode cX12_formula 24 = .ok (.iconst 2, 1) := by decide +kernel
theorem dX12_formula_25 : decode cX12_formula 25 = .ok (.iconst 0, 1) := by decide +kernel
theorem dX12_formula_26 : decode cX12_formula 26 = .ok (.invokevirtual 204, 3) := by decide +kernel
theorem dX12_formula_29 : decode cX12_formula 29 = .ok (.aload_n 0, 1) := by decide +kernel
theorem dX12_formula_30 : decode cX12_formula 30 = .ok (.iconst 0, 1) := by decide +kernel
theorem dX12_formula_31 : decode cX12_formula 31 = .ok (.putfield 174, 3) := by decide +kernel
theorem dX12_formula_34 : decode cX12_formula 34 = .ok (.aload_n 0, 1) := by decide +kernel
theorem dX12_formula_35 : decode cX12_formula 35 = .ok (.invokevirtual 180, 3) := by decide +kernel
theorem dX12_formula_38 : decode cX12_formula 38 = .ok (.aload_n 0, 1) := by decide +kernel
theorem dX12_formula_39 : decode cX12_formula 39 = .ok (.getfield 52, 3) := by decide +kernel
theorem dX12_formula_42 : decode cX12_formula 42 = .ok (.ifCond .ne 20, 3) := by decide +kernel
theorem dX12_formula_45 : decode cX12_formula 45 = .ok (.aload_n 0, 1) := by decide +kernel
theorem dX12_formula_46 : decode cX12_formula 46 = .ok (.getfield 32, 3) := by decide +kernel
theorem dX12_formula_49 : decode cX12_formula 49 = .ok (.aload_n 0, 1) := by decide +kernel
theorem dX12_formula_50 : decode cX12_formula 50 = .ok (.getfield 49, 3) := by decide +kernel
theorem dX12_formula_53 : decode cX12_formula 53 = .ok (.iaload, 1) := by decide +kernel
theorem dX12_formula_54 : decode cX12_formula 54 = .ok (.ifCond .eq 8, 3) := by decide +kernel
theorem dX12_formula_57 : decode cX12_formula 57 = .ok (.aload_n 0, 1) := by decide +kernel
theorem dX12_formula_58 : decode cX12_formula 58 = .ok (.iconst 1, 1) := by decide +kernel
theorem dX12_formula_59 : decode cX12_formula 59 = .ok (.invokevirtual 147, 3) := by decide +kernel
theorem dX12_formula_62 : decode cX12_formula 62 = .ok (.aload_n 0, 1) := by decide +kernel
theorem dX12_formula_63 : decode cX12_formula 63 = .ok (.getfield 52, 3) := by decide +kernel
theorem dX12_formula_66 : decode cX12_formula 66 = .ok (.ifCond .ne 8, 3) := by decide +kernel
theorem dX12_formula_69 : decode cX12_formula 69 = .ok (.aload_n 0, 1) := by decide +kernel
theorem dX12_formula_70 : decode cX12_formula 70 = .ok (.iload_n 1, 1) := by decide +kernel
theorem dX12_formula_71 : decode cX12_formula 71 = .ok (.invokevirtual 207, 3) := by decide +kernel
theorem dX12_formula_74 : decode cX12_formula 74 = .ok (.aload_n 0, 1) := by decide +kernel
theorem dX12_formula_75 : decode cX12_formula 75 = .ok (.getfield 52, 3) := by decide +kernel
theorem dX12_formula_78 : decode cX12_formula 78 = .ok (.ireturn, 1) := by decide +kernel
theorem dX12_number_0 : decode cX12_number 0 = .ok (.aload_n 0, 1) := by decide +kernel
theorem dX12_number_1 : decode cX12_number 1 = .ok (.iconst 0, 1) := by decide +kernel
theorem dX12_number_2 : decode cX12_number 2 = .ok (.putfield 1, 3) := by decide +kernel
theorem dX12_number_5 : decode cX12_number 5 = .ok (.iload_n 1, 1) := by decide +kernel
theorem dX12_number_6 : decode cX12_number 6 = .ok (.invokestatic 198, 3) := by decide +kernel
theorem dX12_number_9 : decode cX12_number 9 = .ok (.ifCond .ne 5, 3) := by decide +kernel
theorem dX12_number_12 : decode cX12_number 12 = .ok (.iconst 0, 1) := by decide +kernel
theorem dX12_number_13 : decode cX12_number 13 = .ok (.ireturn, 1) := by decide +kernel
theorem dX12_number_14 : decode cX12_number 14 = .ok (.aload_n 0, 1) := by decide +kernel
theorem dX12_number_15 : decode cX12_number 15 = .ok (.iconst 1, 1) := by decide +kernel
theorem dX12_number_16 : decode cX12_number 16 = .ok (.iload_n 2, 1) := by decide +kernel
theorem dX12_number_17 : decode cX12_number 17 = .ok (.invokevirtual 204, 3) := by decide +kernel
theorem dX12_number_20 : decode cX12_number 20 = .ok (.aload_n 0, 1) := by decide +kernel
theorem dX12_number_21 : decode cX12_number 21 = .ok (.iload_n 1, 1) := by decide +kernel
theorem dX12_number_22 : decode cX12_number 22 = .ok (.invokevirtual 207, 3) := by decide +kernel
theorem dX12_number_25 : decode cX12_number 25 = .ok (.iconst 1, 1) := by decide +kernel
theorem dX12_number_26 : decode cX12_number 26 = .ok (.ireturn, 1) := by decide +kernel
theorem dX12_empty_0 : decode cX12_empty 0 = .ok (.aload_n 0, 1) := by decide +kernel
theorem dX12_empty_1 : decode cX12_empty 1 = .ok (.iconst 0, 1) := by decide +kernel
theorem dX12_empty_2 : decode cX12_empty 2 = .ok (.putfield 1, 3) := by decide +kernel
theorem dX12_empty_5 : decode cX12_empty 5 = .ok (.iload_n 1, 1) := by decide +kernel
theorem dX12_empty_6 : decode cX12_empty 6 = .ok (.invokestatic 198, 3) := by decide +kernel
theorem dX12_empty_9 : decode cX12_empty 9 = .ok (.ifCond .ne 5, 3) := by decide +kernel
theorem dX12_empty_12 : decode cX12_empty 12 = .ok (.iconst 0, 1) := by decide +kernel
theorem dX12_empty_13 : decode cX12_empty 13 = .ok (.ireturn, 1) := by decide +kernel
theorem dX12_empty_14 : decode cX12_empty 14 = .ok (.aload_n 0, 1) := by decide +kernel
theorem dX12_empty_15 : decode cX12_empty 15 = .ok (.iconst 0, 1) := by decide +kernel
theorem dX12_empty_16 : decode cX12_empty 16 = .ok (.iconst 0, 1) := by decide +kernel
theorem dX12_empty_17 : decode cX12_empty 17 = .ok (.invokevirtual 204, 3) := by decide +kernel
theorem dX12_empty_20 : decode cX12_empty 20 = .ok (.aload_n 0, 1) := by decide +kernel
theorem dX12_empty_21 : decode cX12_empty 21 = .ok (.iload_n 1, 1) := by decide +kernel
theorem dX12_empty_22 : decode cX12_empty 22 = .ok (.invokevirtual 207, 3) := by decide +kernel
theorem dX12_empty_25 : decode cX12_empty 25 = .ok (.iconst 1, 1) := by decide +kernel
theorem dX12_empty_26 : decode cX12_empty 26 = .ok (.ireturn, 1) := by decide +kernel
theorem dX12_makesCopy_0 : decode cX12_makesCopy 0 = .ok (.aload_n 0, 1) := by decide +kernel
theorem dX12_makesCopy_1 : decode cX12_makesCopy 1 = .ok (.iload_n 1, 1) := by decide +kernel
theorem dX12_makesCopy_2 : decode cX12_makesCopy 2 = .ok (.sipush 288, 3) := by decide +kernel
theorem dX12_makesCopy_5 : decode cX12_makesCopy 5 = .ok (.invokevirtual 191, 3) := by decide +kernel
theorem dX12_makesCopy_8 : decode cX12_makesCopy 8 = .ok (.iconst 0, 1) := by decide +kernel
theorem dX12_makesCopy_9 : decode cX12_makesCopy 9 = .ok (.istore_n 3, 1) := by decide +kernel
theorem dX12_makesCopy_10 : decode cX12_makesCopy 10 = .ok (.iload_n 3, 1) := by decide +kernel
theorem dX12_makesCopy_11 : decode cX12_makesCopy 11 = .ok (.iconst 3, 1) := by decide +kernel
theorem dX12_makesCopy_12 : decode cX12_makesCopy 12 = .ok (.if_icmp .ge 20, 3) := by decide +kernel
theorem dX12_makesCopy_15 : decode cX12_makesCopy 15 = .ok (.aload_n 0, 1) := by decide +kernel
theorem dX12_makesCopy_16 : decode cX12_makesCopy 16 = .ok (.getfield 86, 3) := by decide +kernel
theorem dX12_makesCopy_19 : decode cX12_makesCopy 19 = .ok (.sipush 864, 3) := by decide +kernel
theorem dX12_makesCopy_22 : decode cX12_makesCopy 22 = .ok (.iload_n 3, 1) := by decide +kernel
theorem dX12_makesCopy_23 : decode cX12_makesCopy 23 = .ok (.iadd, 1) := by decide +kernel
theorem dX12_makesCopy_24 : decode cX12_makesCopy 24 = .ok (.iconst 0, 1) := by decide +kernel
theorem dX12_makesCopy_25 : decode cX12_makesCopy 25 = .ok (.iastore, 1) := by decide +kernel
theorem dX12_makesCopy_26 : decode cX12_makesCopy 26 = .ok (.iinc 3 1, 3) := by decide +kernel
theorem dX12_makesCopy_29 : decode cX12_makesCopy 29 = .ok (.goto (-19), 3) := by decide +kernel
theorem dX12_makesCopy_32 : decode cX12_makesCopy 32 = .ok (.iload_n 2, 1) := by decide +kernel
theorem dX12_makesCopy_33 : decode cX12_makesCopy 33 = .ok (.bipush 12, 2) := by decide +kernel
theorem dX12_makesCopy_35 : decode cX12_makesCopy 35 = .ok (.irem, 1) := by decide +kernel
theorem dX12_makesCopy_36 : decode cX12_makesCopy 36 = .ok (.iload_n 1, 1) := by decide +kernel
theorem dX12_makesCopy_37 : decode cX12_makesCopy 37 = .ok (.bipush 12, 2) := by decide +kernel
theorem dX12_makesCopy_39 : decode cX12_makesCopy 39 = .ok (.irem, 1) := by decide +kernel
theorem dX12_makesCopy_40 : decode cX12_makesCopy 40 = .ok (.isub, 1) := by decide +kernel
theorem dX12_makesCopy_41 : decode cX12_makesCopy 41 = .ok (.istore_n 3, 1) := by decide +kernel
theorem dX12_makesCopy_42 : decode cX12_makesCopy 42 = .ok (.iload_n 2, 1) := by decide +kernel
theorem dX12_makesCopy_43 : decode cX12_makesCopy 43 = .ok (.bipush 12, 2) := by decide +kernel
theorem dX12_makesCopy_45 : decode cX12_makesCopy 45 = .ok (.idiv, 1) := by decide +kernel
theorem dX12_makesCopy_46 : decode cX12_makesCopy 46 = .ok (.iload_n 1, 1) := by decide +kernel
theorem dX12_makesCopy_47 : decode cX12_makesCopy 47 = .ok (.bipush 12, 2) := by decide +kernel
theorem dX12_makesCopy_49 : decode cX12_makesCopy 49 = .ok (.idiv, 1) := by decide +kernel
theorem dX12_makesCopy_50 : decode cX12_makesCopy 50 = .ok (.isub, 1) := by decide +kernel
theorem dX12_makesCopy_51 : decode cX12_makesCopy 51 = .ok (.istore 4, 2) := by decide +kernel
theorem dX12_makesCopy_53 : decode cX12_makesCopy 53 = .ok (.iconst 1, 1) := by decide +kernel
theorem dX12_makesCopy_54 : decode cX12_makesCopy 54 = .ok (.istore 5, 2) := by decide +kernel
theorem dX12_makesCopy_56 : decode cX12_makesCopy 56 = .ok (.iconst 0, 1) := by decide +kernel
theorem dX12_makesCopy_57 : decode cX12_makesCopy 57 = .ok (.istore 6, 2) := by decide +kernel
theorem dX12_makesCopy_59 : decode cX12_makesCopy 59 = .ok (.iload 6, 2) := by decide +kernel
theorem dX12_makesCopy_61 : decode cX12_makesCopy 61 = .ok (.aload_n 0, 1) := by decide +kernel
theorem dX12_makesCopy_62 : decode cX12_makesCopy 62 = .ok (.getfield 77, 3) := by decide +kernel
theorem dX12_makesCopy_65 : decode cX12_makesCopy 65 = .ok (.sipush 288, 3) := by decide +kernel
theorem dX12_makesCopy_68 : decode cX12_makesCopy 68 = .ok (.iaload, 1) := by decide +kernel
theorem dX12_makesCopy_69 : decode cX12_makesCopy 69 = .ok (.if_icmp .ge 140, 3) := by decide +kernel
theorem dX12_makesCopy_72 : decode cX12_makesCopy 72 = .ok (.ldc 142, 2) := by decide +kernel
theorem dX12_makesCopy_74 : decode cX12_makesCopy 74 = .ok (.iload 6, 2) := by decide +kernel
theorem dX12_makesCopy_76 : decode cX12_makesCopy 76 = .ok (.iadd, 1) := by decide +kernel
theorem dX12_makesCopy_77 : decode cX12_makesCopy 77 = .ok (.istore 7, 2) := by decide +kernel
theorem dX12_makesCopy_79 : decode cX12_makesCopy 79 = .ok (.aload_n 0, 1) := by decide +kernel
theorem dX12_makesCopy_80 : decode cX12_makesCopy 80 = .ok (.getfield 65, 3) := by decide +kernel
theorem dX12_makesCopy_83 : decode cX12_makesCopy 83 = .ok (.iload 7, 2) := by decide +kernel
theorem dX12_makesCopy_85 : decode cX12_makesCopy 85 = .ok (.iaload, 1) := by decide +kernel
theorem dX12_makesCopy_86 : decode cX12_makesCopy 86 = .ok (.iconst 3, 1) := by decide +kernel
theorem dX12_makesCopy_87 : decode cX12_makesCopy 87 = .ok (.if_icmp .ne 116, 3) := by decide +kernel
theorem dX12_makesCopy_90 : decode cX12_makesCopy 90 = .ok (.aload_n 0, 1) := by decide +kernel
theorem dX12_makesCopy_91 : decode cX12_makesCopy 91 = .ok (.getfield 68, 3) := by decide +kernel
theorem dX12_makesCopy_94 : decode cX12_makesCopy 94 = .ok (.iload 7, 2) := by decide +kernel
theorem dX12_makesCopy_96 : decode cX12_makesCopy 96 = .ok (.dup2, 1) := by decide +kernel
theorem dX12_makesCopy_97 : decode cX12_makesCopy 97 = .ok (.iaload, 1) := by decide +kernel
theorem dX12_makesCopy_98 : decode cX12_makesCopy 98 = .ok (.aload_n 0, 1) := by decide +kernel
theorem dX12_makesCopy_99 : decode cX12_makesCopy 99 = .ok (.getfield 74, 3) := by decide +kernel
theorem dX12_makesCopy_102 : decode cX12_makesCopy 102 = .ok (.iload 7, 2) := by decide +kernel
theorem dX12_makesCopy_104 : decode cX12_makesCopy 104 = .ok (.iaload, 1) := by decide +kernel
theorem dX12_makesCopy_105 : decode cX12_makesCopy 105 = .ok (.iconst 1, 1) := by decide +kernel
theorem dX12_makesCopy_106 : decode cX12_makesCopy 106 = .ok (.iand, 1) := by decide +kernel
theorem dX12_makesCopy_107 : decode cX12_makesCopy 107 = .ok (.iconst 1, 1) := by decide +kernel
theorem dX12_makesCopy_108 : decode cX12_makesCopy 108 = .ok (.if_icmp .ne 7, 3) := by decide +kernel
theorem dX12_makesCopy_111 : decode cX12_makesCopy 111 = .ok (.iconst 0, 1) := by decide +kernel
theorem dX12_makesCopy_112 : decode cX12_makesCopy 112 = .ok (.goto 4, 3) := by decide +kernel
theorem dX12_makesCopy_115 : decode cX12_makesCopy 115 = .ok (.iload_n 3, 1) := by decide +kernel
theorem dX12_makesCopy_116 : decode cX12_makesCopy 116 = .ok (.iadd, 1) := by decide +kernel
theorem dX12_makesCopy_117 : decode cX12_makesCopy 117 = .ok (.iastore, 1) := by decide +kernel
theorem dX12_makesCopy_118 : decode cX12_makesCopy 118 = .ok (.aload_n 0, 1) := by decide +kernel
theorem dX12_makesCopy_119 : decode cX12_makesCopy 119 = .ok (.getfield 71, 3) := by decide +kernel
theorem dX12_makesCopy_122 : decode cX12_makesCopy 122 = .ok (.iload 7, 2) := by decide +kernel
theorem dX12_makesCopy_124 : decode cX12_makesCopy 124 = .ok (.dup2, 1) := by decide +kernel
theorem dX12_makesCopy_125 : decode cX12_makesCopy 125 = .ok (.iaload, 1) := by decide +kernel
theorem dX12_makesCopy_126 : decode cX12_makesCopy 126 = .ok (.aload_n 0, 1) := by decide +kernel
theorem dX12_makesCopy_127 : decode cX12_makesCopy 127 = .ok (.getfield 74, 3) := by decide +kernel
theorem dX12_makesCopy_130 : decode cX12_makesCopy 130 = .ok (.iload 7, 2) := by decide +kernel
theorem dX12_makesCopy_132 : decode cX12_makesCopy 132 = .ok (.iaload, 1) := by decide +kernel
theorem dX12_makesCopy_133 : decode cX12_makesCopy 133 = .ok (.iconst 2, 1) := by decide +kernel
theorem dX12_makesCopy_134 : decode cX12_makesCopy 134 = .ok (.iand, 1) := by decide +kernel
theorem dX12_makesCopy_135 : decode cX12_makesCopy 135 = .ok (.iconst 2, 1) := by decide +kernel
theorem dX12_makesCopy_136 : decode cX12_makesCopy 136 = .ok (.if_icmp .ne 7, 3) := by decide +kernel
theorem dX12_makesCopy_139 : decode cX12_makesCopy 139 = .ok (.iconst 0, 1) := by decide +kernel
theorem dX12_makesCopy_140 : decode cX12_makesCopy 140 = .ok (.goto 5, 3) := by decide +kernel
theorem dX12_makesCopy_143 : decode cX12_makesCopy 143 = .ok (.iload 4, 2) := by decide +kernel
theorem dX12_makesCopy_145 : decode cX12_makesCopy 145 = .ok (.iadd, 1) := by decide +kernel
theorem dX12_makesCopy_146 : decode cX12_makesCopy 146 = .ok (.iastore, 1) := by decide +kernel
theorem dX12_makesCopy_147 : decode cX12_makesCopy 147 = .ok (.iload 5, 2) := by decide +kernel
theorem dX12_makesCopy_149 : decode cX12_makesCopy 149 = .ok (.ifCond .eq 51, 3) := by decide +kernel
theorem dX12_makesCopy_152 : decode cX12_makesCopy 152 = .ok (.aload_n 0, 1) := by decide +kernel
theorem dX12_makesCopy_153 : decode cX12_makesCopy 153 = .ok (.getfield 68, 3) := by decide +kernel
theorem dX12_makesCopy_156 : decode cX12_makesCopy 156 = .ok (.iload 7, 2) := by decide +kernel
theorem dX12_makesCopy_158 : decode cX12_makesCopy 158 = .ok (.iaload, 1) := by decide +kernel
theorem dX12_makesCopy_159 : decode cX12_makesCopy 159 = .ok (.ifCond .lt 41, 3) := by decide +kernel
theorem dX12_makesCopy_162 : decode cX12_makesCopy 162 = .ok (.aload_n 0, 1) := by decide +kernel
theorem dX12_makesCopy_163 : decode cX12_makesCopy 163 = .ok (.getfield 68, 3) := by decide +kernel
theorem dX12_makesCopy_166 : decode cX12_makesCopy 166 = .ok (.iload 7, 2) := by decide +kernel
theorem dX12_makesCopy_168 : decode cX12_makesCopy 168 = .ok (.iaload, 1) := by decide +kernel
theorem dX12_makesCopy_169 : decode cX12_makesCopy 169 = .ok (.bipush 12, 2) := by decide +kernel
theorem dX12_makesCopy_171 : decode cX12_makesCopy 171 = .ok (.if_icmp .ge 29, 3) := by decide +kernel
theorem dX12_makesCopy_174 : decode cX12_makesCopy 174 = .ok (.aload_n 0, 1) := by decide +kernel
theorem dX12_makesCopy_175 : decode cX12_makesCopy 175 = .ok (.getfield 71, 3) := by decide +kernel
theorem dX12_makesCopy_178 : decode cX12_makesCopy 178 = .ok (.iload 7, 2) := by decide +kernel
theorem dX12_makesCopy_180 : decode cX12_makesCopy 180 = .ok (.iaload, 1) := by decide +kernel
theorem dX12_makesCopy_181 : decode cX12_makesCopy 181 = .ok (.ifCond .lt 19, 3) := by decide +kernel
theorem dX12_makesCopy_184 : decode cX12_makesCopy 184 = .ok (.aload_n 0, 1) := by decide +kernel
theorem dX12_makesCopy_185 : decode cX12_makesCopy 185 = .ok (.getfield 71, 3) := by decide +kernel
theorem dX12_makesCopy_188 : decode cX12_makesCopy 188 = .ok (.iload 7, 2) := by decide +kernel
theorem dX12_makesCopy_190 : decode cX12_makesCopy 190 = .ok (.iaload, 1) := by decide +kernel
theorem dX12_makesCopy_191 : decode cX12_makesCopy 191 = .ok (.bipush 24, 2) := by decide +kernel
theorem dX12_makesCopy_193 : decode cX12_makesCopy 193 = .ok (.if_icmp .ge 7, 3) := by decide +kernel
theorem dX12_makesCopy_196 : decode cX12_makesCopy 196 = .ok (.iconst 1, 1) := by decide +kernel
theorem dX12_makesCopy_197 : decode cX12_makesCopy 197 = .ok (.goto 4, 3) := by decide +kernel
theorem dX12_makesCopy_200 : decode cX12_makesCopy 200 = .ok (.iconst 0, 1) := by decide +kernel
theorem dX12_makesCopy_201 : decode cX12_makesCopy 201 = .ok (.istore 5, 2) := by decide +kernel
theorem dX12_makesCopy_203 : decode cX12_makesCopy 203 = .ok (.iinc 6 1, 3) := by decide +kernel
theorem dX12_makesCopy_206 : decode cX12_makesCopy 206 = .ok (.goto (-147), 3) := by decide +kernel
theorem dX12_makesCopy_209 : decode cX12_makesCopy 209 = .ok (.iconst 0, 1) := by decide +kernel
theorem dX12_makesCopy_210 : decode cX12_makesCopy 210 = .ok (.istore 6, 2) := by decide +kernel
theorem dX12_makesCopy_212 : decode cX12_makesCopy 212 = .ok (.iload 6, 2) := by decide +kernel
theorem dX12_makesCopy_214 : decode cX12_makesCopy 214 = .ok (.aload_n 0, 1) := by decide +kernel
theorem dX12_makesCopy_215 : decode cX12_makesCopy 215 = .ok (.getfield 77, 3) := by decide +kernel
theorem dX12_makesCopy_218 : decode cX12_makesCopy 218 = .ok (.sipush 288, 3) := by decide +kernel
theorem dX12_makesCopy_221 : decode cX12_makesCopy 221 = .ok (.iaload, 1) := by decide +kernel
theorem dX12_makesCopy_222 : decode cX12_makesCopy 222 = .ok (.if_icmp .ge 81, 3) := by decide +kernel
theorem dX12_makesCopy_225 : decode cX12_makesCopy 225 = .ok (.ldc 142, 2) := by decide +kernel
theorem dX12_makesCopy_227 : decode cX12_makesCopy 227 = .ok (.iload 6, 2) := by decide +kernel
theorem dX12_makesCopy_229 : decode cX12_makesCopy 229 = .ok (.iadd, 1) := by decide +kernel
theorem dX12_makesCopy_230 : decode cX12_makesCopy 230 = .ok (.istore 7, 2) := by decide +kernel
theorem dX12_makesCopy_232 : decode cX12_makesCopy 232 = .ok (.iload 5, 2) := by decide +kernel
theorem dX12_makesCopy_234 : decode cX12_makesCopy 234 = .ok (.ifCond .eq 60, 3) := by decide +kernel
theorem dX12_makesCopy_237 : decode cX12_makesCopy 237 = .ok (.aload_n 0, 1) := by decide +kernel
theorem dX12_makesCopy_238 : decode cX12_makesCopy 238 = .ok (.getfield 65, 3) := by decide +kernel
theorem dX12_makesCopy_241 : decode cX12_makesCopy 241 = .ok (.iload 7, 2) := by decide +kernel
theorem dX12_makesCopy_243 : decode cX12_makesCopy 243 = .ok (.iaload, 1) := by decide +kernel
theorem dX12_makesCopy_244 : decode cX12_makesCopy 244 = .ok (.iconst 2, 1) := by decide +kernel
theorem dX12_makesCopy_245 : decode cX12_makesCopy 245 = .ok (.if_icmp .ne 45, 3) := by decide +kernel
theorem dX12_makesCopy_248 : decode cX12_makesCopy 248 = .ok (.aload_n 0, 1) := by decide +kernel
theorem dX12_makesCopy_249 : decode cX12_makesCopy 249 = .ok (.getfield 68, 3) := by decide +kernel
theorem dX12_makesCopy_252 : decode cX12_makesCopy 252 = .ok (.iload 7, 2) := by decide +kernel
theorem dX12_makesCopy_254 : decode cX12_makesCopy 254 = .ok (.iconst 4, 1) := by decide +kernel
theorem dX12_makesCopy_255 : decode cX12_makesCopy 255 = .ok (.iadd, 1) := by decide +kernel
theorem dX12_makesCopy_256 : decode cX12_makesCopy 256 = .ok (.iaload, 1) := by decide +kernel
theorem dX12_makesCopy_257 : decode cX12_makesCopy 257 = .ok (.aload_n 0, 1) := by decide +kernel
theorem dX12_makesCopy_258 : decode cX12_makesCopy 258 = .ok (.getfield 68, 3) := by decide +kernel
theorem dX12_makesCopy_261 : decode cX12_makesCopy 261 = .ok (.iload 7, 2) := by decide +kernel
theorem dX12_makesCopy_263 : decode cX12_makesCopy 263 = .ok (.iconst 2, 1) := by decide +kernel
theorem dX12_makesCopy_264 : decode cX12_makesCopy 264 = .ok (.iadd, 1) := by decide +kernel
theorem dX12_makesCopy_265 : decode cX12_makesCopy 265 = .ok (.iaload, 1) := by decide +kernel
theorem dX12_makesCopy_266 : decode cX12_makesCopy 266 = .ok (.if_icmp .lt 28, 3) := by decide +kernel
theorem dX12_makesCopy_269 : decode cX12_makesCopy 269 = .ok (.aload_n 0, 1) := by decide +kernel
theorem dX12_makesCopy_270 : decode cX12_makesCopy 270 = .ok (.getfield 71, 3) := by decide +kernel
theorem dX12_makesCopy_273 : decode cX12_makesCopy 273 = .ok (.iload 7, 2) := by decide +kernel
theorem dX12_makesCopy_275 : decode cX12_makesCopy 275 = .ok (.iconst 4, 1) := by decide +kernel
theorem dX12_makesCopy_276 : decode cX12_makesCopy 276 = .ok (.iadd, 1) := by decide +kernel
theorem dX12_makesCopy_277 : decode cX12_makesCopy 277 = .ok (.iaload, 1) := by decide +kernel
theorem dX12_makesCopy_278 : decode cX12_makesCopy 278 = .ok (.aload_n 0, 1) := by decide +kernel
theorem dX12_makesCopy_279 : decode cX12_makesCopy 279 = .ok (.getfield 71, 3) := by decide +kernel
theorem dX12_makesCopy_282 : decode cX12_makesCopy 282 = .ok (.iload 7, 2) := by decide +kernel
theorem dX12_makesCopy_284 : decode cX12_makesCopy 284 = .ok (.iconst 2, 1) := by decide +kernel
theorem dX12_makesCopy_285 : decode cX12_makesCopy 285 = .ok (.iadd, 1) := by decide +kernel
theorem dX12_makesCopy_286 : decode cX12_makesCopy 286 = .ok (.iaload, 1) := by decide +kernel
theorem dX12_makesCopy_287 : decode cX12_makesCopy 287 = .ok (.if_icmp .lt 7, 3) := by decide +kernel
theorem dX12_makesCopy_290 : decode cX12_makesCopy 290 = .ok (.iconst 1, 1) := by decide +kernel
theorem dX12_makesCopy_291 : decode cX12_makesCopy 291 = .ok (.goto 4, 3) := by decide +kernel
theorem dX12_makesCopy_294 : decode cX12_makesCopy 294 = .ok (.iconst 0, 1) := by decide +kernel
theorem dX12_makesCopy_295 : decode cX12_makesCopy 295 = .ok (.istore 5, 2) := by decide +kernel
theorem dX12_makesCopy_297 : decode cX12_makesCopy 297 = .ok (.iinc 6 1, 3) := by decide +kernel
theorem dX12_makesCopy_300 : decode cX12_makesCopy 300 = .ok (.goto (-88), 3) := by decide +kernel
theorem dX12_makesCopy_303 : decode cX12_makesCopy 303 = .ok (.iload 5, 2) := by decide +kernel
theorem dX12_makesCopy_305 : decode cX12_makesCopy 305 = .ok (.ireturn, 1) := by decide +kernel
theorem dX12_copy_0 : decode cX12_copy 0 = .ok (.aload_n 0, 1) := by decide +kernel
theorem dX12_copy_1 : decode cX12_copy 1 = .ok (.iconst 0, 1) := by decide +kernel
theorem dX12_copy_2 : decode cX12_copy 2 = .ok (.putfield 1, 3) := by decide +kernel
theorem dX12_copy_5 : decode cX12_copy 5 = .ok (.iload_n 1, 1) := by decide +kernel
theorem dX12_copy_6 : decode cX12_copy 6 = .ok (.invokestatic 198, 3) := by decide +kernel
theorem dX12_copy_9 : decode cX12_copy 9 = .ok (.ifCond .eq 19, 3) := by decide +kernel
theorem dX12_copy_12 : decode cX12_copy 12 = .ok (.iload_n 2, 1) := by decide +kernel
theorem dX12_copy_13 : decode cX12_copy 13 = .ok (.invokestatic 198, 3) := by decide +kernel
theorem dX12_copy_16 : decode cX12_copy 16 = .ok (.ifCond .eq 12, 3) := by decide +kernel
theorem dX12_copy_19 : decode cX12_copy 19 = .ok (.aload_n 0, 1) := by decide +kernel
theorem dX12_copy_20 : decode cX12_copy 20 = .ok (.iload_n 1, 1) := by decide +kernel
theorem dX12_copy_21 : decode cX12_copy 21 = .ok (.iload_n 2, 1) := by decide +kernel
theorem dX12_copy_22 : decode cX12_copy 22 = .ok (.invokevirtual 210, 3) := by decide +kernel
theorem dX12_copy_25 : decode cX12_copy 25 = .ok (.ifCond .ne 5, 3) := by decide +kernel
theorem dX12_copy_28 : decode cX12_copy 28 = .ok (.iconst 0, 1) := by decide +kernel
theorem dX12_copy_29 : decode cX12_copy 29 = .ok (.ireturn, 1) := by decide +kernel
theorem dX12_copy_30 : decode cX12_copy 30 = .ok (.aload_n 0, 1) := by decide +kernel
theorem dX12_copy_31 : decode cX12_copy 31 = .ok (.iload_n 2, 1) := by decide +kernel
theorem dX12_copy_32 : decode cX12_copy 32 = .ok (.invokevirtual 207, 3) := by decide +kernel
theorem dX12_copy_35 : decode cX12_copy 35 = .ok (.iconst 1, 1) := by decide +kernel
theorem dX12_copy_36 : decode cX12_copy 36 = .ok (.ireturn, 1) := by decide +kernel
theorem dX12_unit_0 : decode cX12_unit 0 = .ok (.aload_n 0, 1) := by decide +kernel
theorem dX12_unit_1 : decode cX12_unit 1 = .ok (.iconst 0, 1) := by decide +kernel
theorem dX12_unit_2 : decode cX12_unit 2 = .ok (.putfield 1, 3) := by decide +kernel
theorem dX12_unit_5 : decode cX12_unit 5 = .ok (.iload_n 1, 1) := by decide +kernel
theorem dX12_unit_6 : decode cX12_unit 6 = .ok (.invokestatic 198, 3) := by decide +kernel
theorem dX12_unit_9 : decode cX12_unit 9 = .ok (.ifCond .eq 48, 3) := by decide +kernel
theorem dX12_unit_12 : decode cX12_unit 12 = .ok (.aload_n 0, 1) := by decide +kernel
theorem dX12_unit_13 : decode cX12_unit 13 = .ok (.getfield 80, 3) := by decide +kernel
theorem dX12_unit_16 : decode cX12_unit 16 = .ok (.iload_n 1, 1) := by decide +kernel
theorem dX12_unit_17 : decode cX12_unit 17 = .ok (.iaload, 1) := by decide +kernel
theorem dX12_unit_18 : decode cX12_unit 18 = .ok (.iconst 1, 1) := by decide +kernel
theorem dX12_unit_19 : decode cX12_unit 19 = .ok (.if_icmp .ne 38, 3) := by decide +kernel
theorem dX12_unit_22 : decode cX12_unit 22 = .ok (.iload_n 2, 1) := by decide +kernel
theorem dX12_unit_23 : decode cX12_unit 23 = .ok (.bipush (-4), 2) := by decide +kernel
theorem dX12_unit_25 : decode cX12_unit 25 = .ok (.if_icmp .lt 32, 3) := by decide +kernel
theorem dX12_unit_28 : decode cX12_unit 28 = .ok (.iload_n 2, 1) := by decide +kernel
theorem dX12_unit_29 : decode cX12_unit 29 = .ok (.iconst 4, 1) := by decide +kernel
theorem dX12_unit_30 : decode cX12_unit 30 = .ok (.if_icmp .gt 27, 3) := by decide +kernel
theorem dX12_unit_33 : decode cX12_unit 33 = .ok (.iload_n 3, 1) := by decide +kernel
theorem dX12_unit_34 : decode cX12_unit 34 = .ok (.bipush (-4), 2) := by decide +kernel
theorem dX12_unit_36 : decode cX12_unit 36 = .ok (.if_icmp .lt 21, 3) := by decide +kernel
theorem dX12_unit_39 : decode cX12_unit 39 = .ok (.iload_n 3, 1) := by decide +kernel
theorem dX12_unit_40 : decode cX12_unit 40 = .ok (.iconst 4, 1) := by decide +kernel
theorem dX12_unit_41 : decode cX12_unit 41 = .ok (.if_icmp .gt 16, 3) := by decide +kernel
theorem dX12_unit_44 : decode cX12_unit 44 = .ok (.iload 4, 2) := by decide +kernel
theorem dX12_unit_46 : decode cX12_unit 46 = .ok (.bipush (-4), 2) := by decide +kernel
theorem dX12_unit_48 : decode cX12_unit 48 = .ok (.if_icmp .lt 9, 3) := by decide +kernel
theorem dX12_unit_51 : decode cX12_unit 51 = .ok (.iload 4, 2) := by decide +kernel
theorem dX12_unit_53 : decode cX12_unit 53 = .ok (.iconst 4, 1) := by decide +kernel
theorem dX12_unit_54 : decode cX12_unit 54 = .ok (.if_icmp .le 5, 3) := by decide +kernel
theorem dX12_unit_57 : decode cX12_unit 57 = .ok (.iconst 0, 1) := by decide +kernel
theorem dX12_unit_58 : decode cX12_unit 58 = .ok (.ireturn, 1) := by decide +kernel
theorem dX12_unit_59 : decode cX12_unit 59 = .ok (.aload_n 0, 1) := by decide +kernel
theorem dX12_unit_60 : decode cX12_unit 60 = .ok (.getfield 86, 3) := by decide +kernel
theorem dX12_unit_63 : decode cX12_unit 63 = .ok (.iconst 3, 1) := by decide +kernel
theorem dX12_unit_64 : decode cX12_unit 64 = .ok (.iload_n 1, 1) := by decide +kernel
theorem dX12_unit_65 : decode cX12_unit 65 = .ok (.imul, 1) := by decide +kernel
theorem dX12_unit_66 : decode cX12_unit 66 = .ok (.iload_n 2, 1) := by decide +kernel
theorem dX12_unit_67 : decode cX12_unit 67 = .ok (.iastore, 1) := by decide +kernel
theorem dX12_unit_68 : decode cX12_unit 68 = .ok (.aload_n 0, 1) := by decide +kernel
theorem dX12_unit_69 : decode cX12_unit 69 = .ok (.getfield 86, 3) := by decide +kernel
theorem dX12_unit_72 : decode cX12_unit 72 = .ok (.iconst 3, 1) := by decide +kernel
theorem dX12_unit_73 : decode cX12_unit 73 = .ok (.iload_n 1, 1) := by decide +kernel
theorem dX12_unit_74 : decode cX12_unit 74 = .ok (.imul, 1) := by decide +kernel
theorem dX12_unit_75 : decode cX12_unit 75 = .ok (.iconst 1, 1) := by decide +kernel
theorem dX12_unit_76 : decode cX12_unit 76 = .ok (.iadd, 1) := by decide +kernel
theorem dX12_unit_77 : decode cX12_unit 77 = .ok (.iload_n 3, 1) := by decide +kernel
theorem dX12_unit_78 : decode cX12_unit 78 = .ok (.iastore, 1) := by decide +kernel
theorem dX12_unit_79 : decode cX12_unit 79 = .ok (.aload_n 0, 1) := by decide +kernel
theorem dX12_unit_80 : decode cX12_unit 80 = .ok (.getfield 86, 3) := by decide +kernel
theorem dX12_unit_83 : decode cX12_unit 83 = .ok (.iconst 3, 1) := by decide +kernel
theorem dX12_unit_84 : decode cX12_unit 84 = .ok (.iload_n 1, 1) := by decide +kernel
theorem dX12_unit_85 : decode cX12_unit 85 = .ok (.imul, 1) := by decide +kernel
theorem dX12_unit_86 : decode cX12_unit 86 = .ok (.iconst 2, 1) := by decide +kernel
theorem dX12_unit_87 : decode cX12_unit 87 = .ok (.iadd, 1) := by decide +kernel
theorem dX12_unit_88 : decode cX12_unit 88 = .ok (.iload 4, 2) := by decide +kernel
theorem dX12_unit_90 : decode cX12_unit 90 = .ok (.iastore, 1) := by decide +kernel
theorem dX12_unit_91 : decode cX12_unit 91 = .ok (.aload_n 0, 1) := by decide +kernel
theorem dX12_unit_92 : decode cX12_unit 92 = .ok (.invokevirtual 195, 3) := by decide +kernel
theorem dX12_unit_95 : decode cX12_unit 95 = .ok (.iconst 1, 1) := by decide +kernel
theorem dX12_unit_96 : decode cX12_unit 96 = .ok (.ireturn, 1) := by decide +kernel
theorem dX12_keep_0 : decode cX12_keep 0 = .ok (.aload_n 0, 1) := by decide +kernel
theorem dX12_keep_1 : decode cX12_keep 1 = .ok (.iconst 0, 1) := by decide +kernel
theorem dX12_keep_2 : decode cX12_keep 2 = .ok (.putfield 1, 3) := by decide +kernel
theorem dX12_keep_5 : decode cX12_keep 5 = .ok (.iload_n 1, 1) := by decide +kernel
theorem dX12_keep_6 : decode cX12_keep 6 = .ok (.invokestatic 198, 3) := by decide +kernel
theorem dX12_keep_9 : decode cX12_keep 9 = .ok (.ifCond .ne 5, 3) := by decide +kernel
theorem dX12_keep_12 : decode cX12_keep 12 = .ok (.iconst 0, 1) := by decide +kernel
theorem dX12_keep_13 : decode cX12_keep 13 = .ok (.ireturn, 1) := by decide +kernel
theorem dX12_keep_14 : decode cX12_keep 14 = .ok (.aload_n 0, 1) := by decide +kernel
theorem dX12_keep_15 : decode cX12_keep 15 = .ok (.getfield 89, 3) := by decide +kernel
theorem dX12_keep_18 : decode cX12_keep 18 = .ok (.iload_n 1, 1) := by decide +kernel
theorem dX12_keep_19 : decode cX12_keep 19 = .ok (.iload_n 2, 1) := by decide +kernel
theorem dX12_keep_20 : decode cX12_keep 20 = .ok (.bastore, 1) := by decide +kernel
theorem dX12_keep_21 : decode cX12_keep 21 = .ok (.iconst 1, 1) := by decide +kernel
theorem dX12_keep_22 : decode cX12_keep 22 = .ok (.ireturn, 1) := by decide +kernel
theorem dX12_has_0 : decode cX12_has 0 = .ok (.aload_n 0, 1) := by decide +kernel
theorem dX12_has_1 : decode cX12_has 1 = .ok (.iconst 5, 1) := by decide +kernel
theorem dX12_has_2 : decode cX12_has 2 = .ok (.iload_n 1, 1) := by decide +kernel
theorem dX12_has_3 : decode cX12_has 3 = .ok (.imul, 1) := by decide +kernel
theorem dX12_has_4 : decode cX12_has 4 = .ok (.iload_n 2, 1) := by decide +kernel
theorem dX12_has_5 : decode cX12_has 5 = .ok (.bipush 64, 2) := by decide +kernel
theorem dX12_has_7 : decode cX12_has 7 = .ok (.idiv, 1) := by decide +kernel
theorem dX12_has_8 : decode cX12_has 8 = .ok (.iadd, 1) := by decide +kernel
theorem dX12_has_9 : decode cX12_has 9 = .ok (.laload, 1) := by decide +kernel
theorem dX12_has_10 : decode cX12_has 10 = .ok (.iload_n 2, 1) := by decide +kernel
theorem dX12_has_11 : decode cX12_has 11 = .ok (.bipush 64, 2) := by decide +kernel
theorem dX12_has_13 : decode cX12_has 13 = .ok (.irem, 1) := by decide +kernel
theorem dX12_has_14 : decode cX12_has 14 = .ok (.lshr, 1) := by decide +kernel
theorem dX12_has_15 : decode cX12_has 15 = .ok (.lconst 1, 1) := by decide +kernel
theorem dX12_has_16 : decode cX12_has 16 = .ok (.land, 1) := by decide +kernel
theorem dX12_has_17 : decode cX12_has 17 = .ok (.lconst 1, 1) := by decide +kernel
theorem dX12_has_18 : decode cX12_has 18 = .ok (.lcmp, 1) := by decide +kernel
theorem dX12_has_19 : decode cX12_has 19 = .ok (.ifCond .ne 7, 3) := by decide +kernel
theorem dX12_has_22 : decode cX12_has 22 = .ok (.iconst 1, 1) := by decide +kernel
theorem dX12_has_23 : decode cX12_has 23 = .ok (.goto 4, 3) := by decide +kernel
theorem dX12_has_26 : decode cX12_has 26 = .ok (.iconst 0, 1) := by decide +kernel
theorem dX12_has_27 : decode cX12_has 27 = .ok (.ireturn, 1) := by decide +kernel
theorem dX12_findReads_0 : decode cX12_findReads 0 = .ok (.iconst 0, 1) := by decide +kernel
theorem dX12_findReads_1 : decode cX12_findReads 1 = .ok (.istore_n 1, 1) := by decide +kernel
theorem dX12_findReads_2 : decode cX12_findReads 2 = .ok (.iload_n 1, 1) := by decide +kernel
theorem dX12_findReads_3 : decode cX12_findReads 3 = .ok (.sipush 1440, 3) := by decide +kernel
theorem dX12_findReads_6 : decode cX12_findReads 6 = .ok (.if_icmp .ge 16, 3) := by decide +kernel
theorem dX12_findReads_9 : decode cX12_findReads 9 = .ok (.aload_n 0, 1) := by decide +kernel
theorem dX12_findReads_10 : decode cX12_findReads 10 = .ok (.getfield 96, 3) := by decide +kernel
theorem dX12_findReads_13 : decode cX12_findReads 13 = .ok (.iload_n 1, 1) := by decide +kernel
theorem dX12_findReads_14 : decode cX12_findReads 14 = .ok (.lconst 0, 1) := by decide +kernel
theorem dX12_findReads_15 : decode cX12_findReads 15 = .ok (.lastore, 1) := by decide +kernel
theorem dX12_findReads_16 : decode cX12_findReads 16 = .ok (.iinc 1 1, 3) := by decide +kernel
theorem dX12_findReads_19 : decode cX12_findReads 19 = .ok (.goto (-17), 3) := by decide +kernel
theorem dX12_findReads_22 : decode cX12_findReads 22 = .ok (.iconst 0, 1) := by decide +kernel
theorem dX12_findReads_23 : decode cX12_findReads 23 = .ok (.istore_n 1, 1) := by decide +kernel
theorem dX12_findReads_24 : decode cX12_findReads 24 = .ok (.iload_n 1, 1) := by decide +kernel
theorem dX12_findReads_25 : decode cX12_findReads 25 = .ok (.sipush 288, 3) := by decide +kernel
theorem dX12_findReads_28 : decode cX12_findReads 28 = .ok (.if_icmp .ge 130, 3) := by decide +kernel
theorem dX12_findReads_31 : decode cX12_findReads 31 = .ok (.iconst 0, 1) := by decide +kernel
theorem dX12_findReads_32 : decode cX12_findReads 32 = .ok (.istore_n 2, 1) := by decide +kernel
theorem dX12_findReads_33 : decode cX12_findReads 33 = .ok (.iload_n 2, 1) := by decide +kernel
theorem dX12_findReads_34 : decode cX12_findReads 34 = .ok (.aload_n 0, 1) := by decide +kernel
theorem dX12_findReads_35 : decode cX12_findReads 35 = .ok (.getfield 77, 3) := by decide +kernel
theorem dX12_findReads_38 : decode cX12_findReads 38 = .ok (.iload_n 1, 1) := by decide +kernel
theorem dX12_findReads_39 : decode cX12_findReads 39 = .ok (.iaload, 1) := by decide +kernel
theorem dX12_findReads_40 : decode cX12_findReads 40 = .ok (.if_icmp .ge 112, 3) := by decide +kernel
theorem dX12_findReads_43 : decode cX12_findReads 43 = .ok (.aload_n 0, 1) := by decide +kernel
theorem dX12_findReads_44 : decode cX12_findReads 44 = .ok (.getfield 80, 3) := by decide +kernel
theorem dX12_findReads_47 : decode cX12_findReads 47 = .ok (.iload_n 1, 1) := by decide +kernel
theorem dX12_findReads_48 : decode cX12_findReads 48 = .ok (.iaload, 1) := by decide +kernel
theorem dX12_findReads_49 : decode cX12_findReads 49 = .ok (.iconst 2, 1) := by decide +kernel
theorem dX12_findReads_50 : decode cX12_findReads 50 = .ok (.if_icmp .ne 102, 3) := by decide +kernel
theorem dX12_findReads_53 : decode cX12_findReads 53 = .ok (.bipush 120, 2) := by decide +kernel
theorem dX12_findReads_55 : decode cX12_findReads 55 = .ok (.iload_n 1, 1) := by decide +kernel
theorem dX12_findReads_56 : decode cX12_findReads 56 = .ok (.imul, 1) := by decide +kernel
theorem dX12_findReads_57 : decode cX12_findReads 57 = .ok (.iload_n 2, 1) := by decide +kernel
theorem dX12_findReads_58 : decode cX12_findReads 58 = .ok (.iadd, 1) := by decide +kernel
theorem dX12_findReads_59 : decode cX12_findReads 59 = .ok (.istore_n 3, 1) := by decide +kernel
theorem dX12_findReads_60 : decode cX12_findReads 60 = .ok (.aload_n 0, 1) := by decide +kernel
theorem dX12_findReads_61 : decode cX12_findReads 61 = .ok (.getfield 65, 3) := by decide +kernel
theorem dX12_findReads_64 : decode cX12_findReads 64 = .ok (.iload_n 3, 1) := by decide +kernel
theorem dX12_findReads_65 : decode cX12_findReads 65 = .ok (.iaload, 1) := by decide +kernel
theorem dX12_findReads_66 : decode cX12_findReads 66 = .ok (.iconst 3, 1) := by decide +kernel
theorem dX12_findReads_67 : decode cX12_findReads 67 = .ok (.if_icmp .ne 79, 3) := by decide +kernel
theorem dX12_findReads_70 : decode cX12_findReads 70 = .ok (.aload_n 0, 1) := by decide +kernel
theorem dX12_findReads_71 : decode cX12_findReads 71 = .ok (.iload_n 1, 1) := by decide +kernel
theorem dX12_findReads_72 : decode cX12_findReads 72 = .ok (.iload_n 2, 1) := by decide +kernel
theorem dX12_findReads_73 : decode cX12_findReads 73 = .ok (.invokevirtual 214, 3) := by decide +kernel
theorem dX12_findReads_76 : decode cX12_findReads 76 = .ok (.istore 4, 2) := by decide +kernel
theorem dX12_findReads_78 : decode cX12_findReads 78 = .ok (.aload_n 0, 1) := by decide +kernel
theorem dX12_findReads_79 : decode cX12_findReads 79 = .ok (.getfield 71, 3) := by decide +kernel
theorem dX12_findReads_82 : decode cX12_findReads 82 = .ok (.iload_n 3, 1) := by decide +kernel
theorem dX12_findReads_83 : decode cX12_findReads 83 = .ok (.iaload, 1) := by decide +kernel
theorem dX12_findReads_84 : decode cX12_findReads 84 = .ok (.istore 5, 2) := by decide +kernel
theorem dX12_findReads_86 : decode cX12_findReads 86 = .ok (.iload 5, 2) := by decide +kernel
theorem dX12_findReads_88 : decode cX12_findReads 88 = .ok (.aload_n 0, 1) := by decide +kernel
theorem dX12_findReads_89 : decode cX12_findReads 89 = .ok (.getfield 71, 3) := by decide +kernel
theorem dX12_findReads_92 : decode cX12_findReads 92 = .ok (.iload 4, 2) := by decide +kernel
theorem dX12_findReads_94 : decode cX12_findReads 94 = .ok (.iaload, 1) := by decide +kernel
theorem dX12_findReads_95 : decode cX12_findReads 95 = .ok (.if_icmp .gt 51, 3) := by decide +kernel
theorem dX12_findReads_98 : decode cX12_findReads 98 = .ok (.aload_n 0, 1) := by decide +kernel
theorem dX12_findReads_99 : decode cX12_findReads 99 = .ok (.getfield 68, 3) := by decide +kernel
theorem dX12_findReads_102 : decode cX12_findReads 102 = .ok (.iload_n 3, 1) := by decide +kernel
theorem dX12_findReads_103 : decode cX12_findReads 103 = .ok (.iaload, 1) := by decide +kernel
theorem dX12_findReads_104 : decode cX12_findReads 104 = .ok (.istore 6, 2) := by decide +kernel
theorem dX12_findReads_106 : decode cX12_findReads 106 = .ok (.iload 6, 2) := by decide +kernel
theorem dX12_findReads_108 : decode cX12_findReads 108 = .ok (.aload_n 0, 1) := by decide +kernel
theorem dX12_findReads_109 : decode cX12_findReads 109 = .ok (.getfield 68, 3) := by decide +kernel
theorem dX12_findReads_112 : decode cX12_findReads 112 = .ok (.iload 4, 2) := by decide +kernel
theorem dX12_findReads_114 : decode cX12_findReads 114 = .ok (.iaload, 1) := by decide +kernel
theorem dX12_findReads_115 : decode cX12_findReads 115 = .ok (.if_icmp .gt 25, 3) := by decide +kernel
theorem dX12_findReads_118 : decode cX12_findReads 118 = .ok (.aload_n 0, 1) := by decide +kernel
theorem dX12_findReads_119 : decode cX12_findReads 119 = .ok (.getfield 96, 3) := by decide +kernel
theorem dX12_findReads_122 : decode cX12_findReads 122 = .ok (.iload_n 1, 1) := by decide +kernel
theorem dX12_findReads_123 : decode cX12_findReads 123 = .ok (.bipush 12, 2) := by decide +kernel
theorem dX12_findReads_125 : decode cX12_findReads 125 = .ok (.iload 5, 2) := by decide +kernel
theorem dX12_findReads_127 : decode cX12_findReads 127 = .ok (.imul, 1) := by decide +kernel
theorem dX12_findReads_128 : decode cX12_findReads 128 = .ok (.iload 6, 2) := by decide +kernel
theorem dX12_findReads_130 : decode cX12_findReads 130 = .ok (.iadd, 1) := by decide +kernel
theorem dX12_findReads_131 : decode cX12_findReads 131 = .ok (.invokestatic 218, 3) := by decide +kernel
theorem dX12_findReads_134 : decode cX12_findReads 134 = .ok (.iinc 6 1, 3) := by decide +kernel
theorem dX12_findReads_137 : decode cX12_findReads 137 = .ok (.goto (-31), 3) := by decide +kernel
theorem dX12_findReads_140 : decode cX12_findReads 140 = .ok (.iinc 5 1, 3) := by decide +kernel
theorem dX12_findReads_143 : decode cX12_findReads 143 = .ok (.goto (-57), 3) := by decide +kernel
theorem dX12_findReads_146 : decode cX12_findReads 146 = .ok (.iinc 2 1, 3) := by decide +kernel
theorem dX12_findReads_149 : decode cX12_findReads 149 = .ok (.goto (-116), 3) := by decide +kernel
theorem dX12_findReads_152 : decode cX12_findReads 152 = .ok (.iinc 1 1, 3) := by decide +kernel
theorem dX12_findReads_155 : decode cX12_findReads 155 = .ok (.goto (-131), 3) := by decide +kernel
theorem dX12_findReads_158 : decode cX12_findReads 158 = .ok (.iconst 0, 1) := by decide +kernel
theorem dX12_findReads_159 : decode cX12_findReads 159 = .ok (.istore_n 1, 1) := by decide +kernel
theorem dX12_findReads_160 : decode cX12_findReads 160 = .ok (.iload_n 1, 1) := by decide +kernel
theorem dX12_findReads_161 : decode cX12_findReads 161 = .ok (.sipush 1440, 3) := by decide +kernel
theorem dX12_findReads_164 : decode cX12_findReads 164 = .ok (.if_icmp .ge 21, 3) := by decide +kernel
theorem dX12_findReads_167 : decode cX12_findReads 167 = .ok (.aload_n 0, 1) := by decide +kernel
theorem dX12_findReads_168 : decode cX12_findReads 168 = .ok (.getfield 99, 3) := by decide +kernel
theorem dX12_findReads_171 : decode cX12_findReads 171 = .ok (.iload_n 1, 1) := by decide +kernel
theorem dX12_findReads_172 : decode cX12_findReads 172 = .ok (.aload_n 0, 1) := by decide +kernel
theorem dX12_findReads_173 : decode cX12_findReads 173 = .ok (.getfield 96, 3) := by decide +kernel
theorem dX12_findReads_176 : decode cX12_findReads 176 = .ok (.iload_n 1, 1) := by decide +kernel
theorem dX12_findReads_177 : decode cX12_findReads 177 = .ok (.laload, 1) := by decide +kernel
theorem dX12_findReads_178 : decode cX12_findReads 178 = .ok (.lastore, 1) := by decide +kernel
theorem dX12_findReads_179 : decode cX12_findReads 179 = .ok (.iinc 1 1, 3) := by decide +kernel
theorem dX12_findReads_182 : decode cX12_findReads 182 = .ok (.goto (-22), 3) := by decide +kernel
theorem dX12_findReads_185 : decode cX12_findReads 185 = .ok (.iconst 0, 1) := by decide +kernel
theorem dX12_findReads_186 : decode cX12_findReads 186 = .ok (.istore_n 1, 1) := by decide +kernel
theorem dX12_findReads_187 : decode cX12_findReads 187 = .ok (.iload_n 1, 1) := by decide +kernel
theorem dX12_findReads_188 : decode cX12_findReads 188 = .ok (.sipush 288, 3) := by decide +kernel
theorem dX12_findReads_191 : decode cX12_findReads 191 = .ok (.if_icmp .ge 82, 3) := by decide +kernel
theorem dX12_findReads_194 : decode cX12_findReads 194 = .ok (.iconst 0, 1) := by decide +kernel
theorem dX12_findReads_195 : decode cX12_findReads 195 = .ok (.istore_n 2, 1) := by decide +kernel
theorem dX12_findReads_196 : decode cX12_findReads 196 = .ok (.iload_n 2, 1) := by decide +kernel
theorem dX12_findReads_197 : decode cX12_findReads 197 = .ok (.sipush 288, 3) := by decide +kernel
theorem dX12_findReads_200 : decode cX12_findReads 200 = .ok (.if_icmp .ge 67, 3) := by decide +kernel
theorem dX12_findReads_203 : decode cX12_findReads 203 = .ok (.aload_n 0, 1) := by decide +kernel
theorem dX12_findReads_204 : decode cX12_findReads 204 = .ok (.getfield 80, 3) := by decide +kernel
theorem dX12_findReads_207 : decode cX12_findReads 207 = .ok (.iload_n 1, 1) := by decide +kernel
theorem dX12_findReads_208 : decode cX12_findReads 208 = .ok (.iaload, 1) := by decide +kernel
theorem dX12_findReads_209 : decode cX12_findReads 209 = .ok (.iconst 2, 1) := by decide +kernel
theorem dX12_findReads_210 : decode cX12_findReads 210 = .ok (.if_icmp .ne 57, 3) := by decide +kernel
theorem dX12_findReads_213 : decode cX12_findReads 213 = .ok (.aload_n 0, 1) := by decide +kernel
theorem dX12_findReads_214 : decode cX12_findReads 214 = .ok (.getfield 99, 3) := by decide +kernel
theorem dX12_findReads_217 : decode cX12_findReads 217 = .ok (.iload_n 2, 1) := by decide +kernel
theorem dX12_findReads_218 : decode cX12_findReads 218 = .ok (.iload_n 1, 1) := by decide +kernel
theorem dX12_findReads_219 : decode cX12_findReads 219 = .ok (.invokestatic 222, 3) := by decide +kernel
theorem dX12_findReads_222 : decode cX12_findReads 222 = .ok (.ifCond .eq 39, 3) := by decide +kernel
theorem dX12_findReads_225 : decode cX12_findReads 225 = .ok (.iconst 0, 1) := by decide +kernel
theorem dX12_findReads_226 : decode cX12_findReads 226 = .ok (.istore_n 3, 1) := by decide +kernel
theorem dX12_findReads_227 : decode cX12_findReads 227 = .ok (.iload_n 3, 1) := by decide +kernel
theorem dX12_findReads_228 : decode cX12_findReads 228 = .ok (.iconst 5, 1) := by decide +kernel
theorem dX12_findReads_229 : decode cX12_findReads 229 = .ok (.if_icmp .ge 32, 3) := by decide +kernel
theorem dX12_findReads_232 : decode cX12_findReads 232 = .ok (.aload_n 0, 1) := by decide +kernel
theorem dX12_findReads_233 : decode cX12_findReads 233 = .ok (.getfield 99, 3) := by decide +kernel
theorem dX12_findReads_236 : decode cX12_findReads 236 = .ok (.iconst 5, 1) := by decide +kernel
theorem dX12_findReads_237 : decode cX12_findReads 237 = .ok (.iload_n 2, 1) := by decide +kernel
theorem dX12_findReads_238 : decode cX12_findReads 238 = .ok (.imul, 1) := by decide +kernel
theorem dX12_findReads_239 : decode cX12_findReads 239 = .ok (.iload_n 3, 1) := by decide +kernel
theorem dX12_findReads_240 : decode cX12_findReads 240 = .ok (.iadd, 1) := by decide +kernel
theorem dX12_findReads_241 : decode cX12_findReads 241 = .ok (.dup2, 1) := by decide +kernel
theorem dX12_findReads_242 : decode cX12_findReads 242 = .ok (.laload, 1) := by decide +kernel
theorem dX12_findReads_243 : decode cX12_findReads 243 = .ok (.aload_n 0, 1) := by decide +kernel
theorem dX12_findReads_244 : decode cX12_findReads 244 = .ok (.getfield 99, 3) := by decide +kernel
theorem dX12_findReads_247 : decode cX12_findReads 247 = .ok (.iconst 5, 1) := by decide +kernel
theorem dX12_findReads_248 : decode cX12_findReads 248 = .ok (.iload_n 1, 1) := by decide +kernel
theorem dX12_findReads_249 : decode cX12_findReads 249 = .ok (.imul, 1) := by decide +kernel
theorem dX12_findReads_250 : decode cX12_findReads 250 = .ok (.iload_n 3, 1) := by decide +kernel
theorem dX12_findReads_251 : decode cX12_findReads 251 = .ok (.iadd, 1) := by decide +kernel
theorem dX12_findReads_252 : decode cX12_findReads 252 = .ok (.laload, 1) := by decide +kernel
theorem dX12_findReads_253 : decode cX12_findReads 253 = .ok (.lor, 1) := by decide +kernel
theorem dX12_findReads_254 : decode cX12_findReads 254 = .ok (.lastore, 1) := by decide +kernel
theorem dX12_findReads_255 : decode cX12_findReads 255 = .ok (.iinc 3 1, 3) := by decide +kernel
theorem dX12_findReads_258 : decode cX12_findReads 258 = .ok (.goto (-31), 3) := by decide +kernel
theorem dX12_findReads_261 : decode cX12_findReads 261 = .ok (.iinc 2 1, 3) := by decide +kernel
theorem dX12_findReads_264 : decode cX12_findReads 264 = .ok (.goto (-68), 3) := by decide +kernel
theorem dX12_findReads_267 : decode cX12_findReads 267 = .ok (.iinc 1 1, 3) := by decide +kernel
theorem dX12_findReads_270 : decode cX12_findReads 270 = .ok (.goto (-83), 3) := by decide +kernel
theorem dX12_findReads_273 : decode cX12_findReads 273 = .ok (.return_, 1) := by decide +kernel
theorem dX12_works_0 : decode cX12_works 0 = .ok (.aload_n 0, 1) := by decide +kernel
theorem dX12_works_1 : decode cX12_works 1 = .ok (.invokevirtual 226, 3) := by decide +kernel
theorem dX12_works_4 : decode cX12_works 4 = .ok (.iconst 0, 1) := by decide +kernel
theorem dX12_works_5 : decode cX12_works 5 = .ok (.istore_n 1, 1) := by decide +kernel
theorem dX12_works_6 : decode cX12_works 6 = .ok (.iload_n 1, 1) := by decide +kernel
theorem dX12_works_7 : decode cX12_works 7 = .ok (.sipush 288, 3) := by decide +kernel
theorem dX12_works_10 : decode cX12_works 10 = .ok (.if_icmp .ge 154, 3) := by decide +kernel
theorem dX12_works_13 : decode cX12_works 13 = .ok (.aload_n 0, 1) := by decide +kernel
theorem dX12_works_14 : decode cX12_works 14 = .ok (.getfield 124, 3) := by decide +kernel
theorem dX12_works_17 : decode cX12_works 17 = .ok (.iload_n 1, 1) := by decide +kernel
theorem dX12_works_18 : decode cX12_works 18 = .ok (.aload_n 0, 1) := by decide +kernel
theorem dX12_works_19 : decode cX12_works 19 = .ok (.getfield 80, 3) := by decide +kernel
theorem dX12_works_22 : decode cX12_works 22 = .ok (.iload_n 1, 1) := by decide +kernel
theorem dX12_works_23 : decode cX12_works 23 = .ok (.iaload, 1) := by decide +kernel
theorem dX12_works_24 : decode cX12_works 24 = .ok (.iconst 2, 1) := by decide +kernel
theorem dX12_works_25 : decode cX12_works 25 = .ok (.if_icmp .ne 11, 3) := by decide +kernel
theorem dX12_works_28 : decode cX12_works 28 = .ok (.aload_n 0, 1) := by decide +kernel
theorem dX12_works_29 : decode cX12_works 29 = .ok (.iload_n 1, 1) := by decide +kernel
theorem dX12_works_30 : decode cX12_works 30 = .ok (.invokevirtual 229, 3) := by decide +kernel
theorem dX12_works_33 : decode cX12_works 33 = .ok (.ifCond .eq 7, 3) := by decide +kernel
theorem dX12_works_36 : decode cX12_works 36 = .ok (.iconst 1, 1) := by decide +kernel
theorem dX12_works_37 : decode cX12_works 37 = .ok (.goto 4, 3) := by decide +kernel
theorem dX12_works_40 : decode cX12_works 40 = .ok (.iconst 0, 1) := by decide +kernel
theorem dX12_works_41 : decode cX12_works 41 = .ok (.bastore, 1) := by decide +kernel
theorem dX12_works_42 : decode cX12_works 42 = .ok (.aload_n 0, 1) := by decide +kernel
theorem dX12_works_43 : decode cX12_works 43 = .ok (.getfield 102, 3) := by decide +kernel
theorem dX12_works_46 : decode cX12_works 46 = .ok (.iload_n 1, 1) := by decide +kernel
theorem dX12_works_47 : decode cX12_works 47 = .ok (.aload_n 0, 1) := by decide +kernel
theorem dX12_works_48 : decode cX12_works 48 = .ok (.getfield 80, 3) := by decide +kernel
theorem dX12_works_51 : decode cX12_works 51 = .ok (.iload_n 1, 1) := by decide +kernel
theorem dX12_works_52 : decode cX12_works 52 = .ok (.iaload, 1) := by decide +kernel
theorem dX12_works_53 : decode cX12_works 53 = .ok (.iconst 1, 1) := by decide +kernel
theorem dX12_works_54 : decode cX12_works 54 = .ok (.if_icmp .ne 12, 3) := by decide +kernel
theorem dX12_works_57 : decode cX12_works 57 = .ok (.aload_n 0, 1) := by decide +kernel
theorem dX12_works_58 : decode cX12_works 58 = .ok (.getfield 83, 3) := by decide +kernel
theorem dX12_works_61 : decode cX12_works 61 = .ok (.iload_n 1, 1) := by decide +kernel
theorem dX12_works_62 : decode cX12_works 62 = .ok (.iaload, 1) := by decide +kernel
theorem dX12_works_63 : decode cX12_works 63 = .ok (.goto 4, 3) := by decide +kernel
theorem dX12_works_66 : decode cX12_works 66 = .ok (.iconst 0, 1) := by decide +kernel
theorem dX12_works_67 : decode cX12_works 67 = .ok (.iastore, 1) := by decide +kernel
theorem dX12_works_68 : decode cX12_works 68 = .ok (.aload_n 0, 1) := by decide +kernel
theorem dX12_works_69 : decode cX12_works 69 = .ok (.getfield 105, 3) := by decide +kernel
theorem dX12_works_72 : decode cX12_works 72 = .ok (.iload_n 1, 1) := by decide +kernel
theorem dX12_works_73 : decode cX12_works 73 = .ok (.aload_n 0, 1) := by decide +kernel
theorem dX12_works_74 : decode cX12_works 74 = .ok (.getfield 80, 3) := by decide +kernel
theorem dX12_works_77 : decode cX12_works 77 = .ok (.iload_n 1, 1) := by decide +kernel
theorem dX12_works_78 : decode cX12_works 78 = .ok (.iaload, 1) := by decide +kernel
theorem dX12_works_79 : decode cX12_works 79 = .ok (.iconst 2, 1) := by decide +kernel
theorem dX12_works_80 : decode cX12_works 80 = .ok (.if_icmp .ne 15, 3) := by decide +kernel
theorem dX12_works_83 : decode cX12_works 83 = .ok (.aload_n 0, 1) := by decide +kernel
theorem dX12_works_84 : decode cX12_works 84 = .ok (.iload_n 1, 1) := by decide +kernel
theorem dX12_works_85 : decode cX12_works 85 = .ok (.invokevirtual 229, 3) := by decide +kernel
theorem dX12_works_88 : decode cX12_works 88 = .ok (.ifCond .eq 7, 3) := by decide +kernel
theorem dX12_works_91 : decode cX12_works 91 = .ok (.iconst 2, 1) := by decide +kernel
theorem dX12_works_92 : decode cX12_works 92 = .ok (.goto 4, 3) := by decide +kernel
theorem dX12_works_95 : decode cX12_works 95 = .ok (.iconst 0, 1) := by decide +kernel
theorem dX12_works_96 : decode cX12_works 96 = .ok (.iastore, 1) := by decide +kernel
theorem dX12_works_97 : decode cX12_works 97 = .ok (.aload_n 0, 1) := by decide +kernel
theorem dX12_works_98 : decode cX12_works 98 = .ok (.getfield 111, 3) := by decide +kernel
theorem dX12_works_101 : decode cX12_works 101 = .ok (.iload_n 1, 1) := by decide +kernel
theorem dX12_works_102 : decode cX12_works 102 = .ok (.iconst 0, 1) := by decide +kernel
theorem dX12_works_103 : decode cX12_works 103 = .ok (.bastore, 1) := by decide +kernel
theorem dX12_works_104 : decode cX12_works 104 = .ok (.aload_n 0, 1) := by decide +kernel
theorem dX12_works_105 : decode cX12_works 105 = .ok (.getfield 114, 3) := by decide +kernel
theorem dX12_works_108 : decode cX12_works 108 = .ok (.iload_n 1, 1) := by decide +kernel
theorem dX12_works_109 : decode cX12_works 109 = .ok (.iconst 0, 1) := by decide +kernel
theorem dX12_works_110 : decode cX12_works 110 = .ok (.bastore, 1) := by decide +kernel
theorem dX12_works_111 : decode cX12_works 111 = .ok (.iconst 0, 1) := by decide +kernel
theorem dX12_works_112 : decode cX12_works 112 = .ok (.istore_n 2, 1) := by decide +kernel
theorem dX12_works_113 : decode cX12_works 113 = .ok (.iload_n 2, 1) := by decide +kernel
theorem dX12_works_114 : decode cX12_works 114 = .ok (.iconst 3, 1) := by decide +kernel
theorem dX12_works_115 : decode cX12_works 115 = .ok (.if_icmp .ge 43, 3) := by decide +kernel
theorem dX12_works_118 : decode cX12_works 118 = .ok (.aload_n 0, 1) := by decide +kernel
theorem dX12_works_119 : decode cX12_works 119 = .ok (.getfield 108, 3) := by decide +kernel
theorem dX12_works_122 : decode cX12_works 122 = .ok (.iconst 3, 1) := by decide +kernel
theorem dX12_works_123 : decode cX12_works 123 = .ok (.iload_n 1, 1) := by decide +kernel
theorem dX12_works_124 : decode cX12_works 124 = .ok (.imul, 1) := by decide +kernel
theorem dX12_works_125 : decode cX12_works 125 = .ok (.iload_n 2, 1) := by decide +kernel
theorem dX12_works_126 : decode cX12_works 126 = .ok (.iadd, 1) := by decide +kernel
theorem dX12_works_127 : decode cX12_works 127 = .ok (.aload_n 0, 1) := by decide +kernel
theorem dX12_works_128 : decode cX12_works 128 = .ok (.getfield 80, 3) := by decide +kernel
theorem dX12_works_131 : decode cX12_works 131 = .ok (.iload_n 1, 1) := by decide +kernel
theorem dX12_works_132 : decode cX12_works 132 = .ok (.iaload, 1) := by decide +kernel
theorem dX12_works_133 : decode cX12_works 133 = .ok (.iconst 1, 1) := by decide +kernel
theorem dX12_works_134 : decode cX12_works 134 = .ok (.if_icmp .ne 16, 3) := by decide +kernel
theorem dX12_works_137 : decode cX12_works 137 = .ok (.aload_n 0, 1) := by decide +kernel
theorem dX12_works_138 : decode cX12_works 138 = .ok (.getfield 86, 3) := by decide +kernel
theorem dX12_works_141 : decode cX12_works 141 = .ok (.iconst 3, 1) := by decide +kernel
theorem dX12_works_142 : decode cX12_works 142 = .ok (.iload_n 1, 1) := by decide +kernel
theorem dX12_works_143 : decode cX12_works 143 = .ok (.imul, 1) := by decide +kernel
theorem dX12_works_144 : decode cX12_works 144 = .ok (.iload_n 2, 1) := by decide +kernel
theorem dX12_works_145 : decode cX12_works 145 = .ok (.iadd, 1) := by decide +kernel
theorem dX12_works_146 : decode cX12_works 146 = .ok (.iaload, 1) := by decide +kernel
theorem dX12_works_147 : decode cX12_works 147 = .ok (.goto 4, 3) := by decide +kernel
theorem dX12_works_150 : decode cX12_works 150 = .ok (.iconst 0, 1) := by decide +kernel
theorem dX12_works_151 : decode cX12_works 151 = .ok (.iastore, 1) := by decide +kernel
theorem dX12_works_152 : decode cX12_works 152 = .ok (.iinc 2 1, 3) := by decide +kernel
theorem dX12_works_155 : decode cX12_works 155 = .ok (.goto (-42), 3) := by decide +kernel
theorem dX12_works_158 : decode cX12_works 158 = .ok (.iinc 1 1, 3) := by decide +kernel
theorem dX12_works_161 : decode cX12_works 161 = .ok (.goto (-155), 3) := by decide +kernel
theorem dX12_works_164 : decode cX12_works 164 = .ok (.iconst 1, 1) := by decide +kernel
theorem dX12_works_165 : decode cX12_works 165 = .ok (.istore_n 1, 1) := by decide +kernel
theorem dX12_works_166 : decode cX12_works 166 = .ok (.iload_n 1, 1) := by decide +kernel
theorem dX12_works_167 : decode cX12_works 167 = .ok (.ifCond .eq 54, 3) := by decide +kernel
theorem dX12_works_170 : decode cX12_works 170 = .ok (.iconst 0, 1) := by decide +kernel
theorem dX12_works_171 : decode cX12_works 171 = .ok (.istore_n 1, 1) := by decide +kernel
theorem dX12_works_172 : decode cX12_works 172 = .ok (.iconst 0, 1) := by decide +kernel
theorem dX12_works_173 : decode cX12_works 173 = .ok (.istore_n 2, 1) := by decide +kernel
theorem dX12_works_174 : decode cX12_works 174 = .ok (.iload_n 2, 1) := by decide +kernel
theorem dX12_works_175 : decode cX12_works 175 = .ok (.sipush 288, 3) := by decide +kernel
theorem dX12_works_178 : decode cX12_works 178 = .ok (.if_icmp .ge 40, 3) := by decide +kernel
theorem dX12_works_181 : decode cX12_works 181 = .ok (.aload_n 0, 1) := by decide +kernel
theorem dX12_works_182 : decode cX12_works 182 = .ok (.getfield 124, 3) := by decide +kernel
theorem dX12_works_185 : decode cX12_works 185 = .ok (.iload_n 2, 1) := by decide +kernel
theorem dX12_works_186 : decode cX12_works 186 = .ok (.baload, 1) := by decide +kernel
theorem dX12_works_187 : decode cX12_works 187 = .ok (.ifCond .ne 25, 3) := by decide +kernel
theorem dX12_works_190 : decode cX12_works 190 = .ok (.aload_n 0, 1) := by decide +kernel
theorem dX12_works_191 : decode cX12_works 191 = .ok (.iload_n 2, 1) := by decide +kernel
theorem dX12_works_192 : decode cX12_works 192 = .ok (.invokevirtual 232, 3) := by decide +kernel
theorem dX12_works_195 : decode cX12_works 195 = .ok (.ifCond .eq 17, 3) := by decide +kernel
theorem dX12_works_198 : decode cX12_works 198 = .ok (.aload_n 0, 1) := by decide +kernel
theorem dX12_works_199 : decode cX12_works 199 = .ok (.iload_n 2, 1) := by decide +kernel
theorem dX12_works_200 : decode cX12_works 200 = .ok (.invokevirtual 235, 3) := by decide +kernel
theorem dX12_works_203 : decode cX12_works 203 = .ok (.aload_n 0, 1) := by decide +kernel
theorem dX12_works_204 : decode cX12_works 204 = .ok (.getfield 124, 3) := by decide +kernel
theorem dX12_works_207 : decode cX12_works 207 = .ok (.iload_n 2, 1) := by decide +kernel
theorem dX12_works_208 : decode cX12_works 208 = .ok (.iconst 1, 1) := by decide +kernel
theorem dX12_works_209 : decode cX12_works 209 = .ok (.bastore, 1) := by decide +kernel
theorem dX12_works_210 : decode cX12_works 210 = .ok (.iconst 1, 1) := by decide +kernel
theorem dX12_works_211 : decode cX12_works 211 = .ok (.istore_n 1, 1) := by decide +kernel
theorem dX12_works_212 : decode cX12_works 212 = .ok (.iinc 2 1, 3) := by decide +kernel
theorem dX12_works_215 : decode cX12_works 215 = .ok (.goto (-41), 3) := by decide +kernel
theorem dX12_works_218 : decode cX12_works 218 = .ok (.goto (-52), 3) := by decide +kernel
theorem dX12_works_221 : decode cX12_works 221 = .ok (.aload_n 0, 1) := by decide +kernel
theorem dX12_works_222 : decode cX12_works 222 = .ok (.invokevirtual 238, 3) := by decide +kernel
theorem dX12_works_225 : decode cX12_works 225 = .ok (.return_, 1) := by decide +kernel
theorem dX12_findFamilies_0 : decode cX12_findFamilies 0 = .ok (.iconst 0, 1) := by decide +kernel
theorem dX12_findFamilies_1 : decode cX12_findFamilies 1 = .ok (.istore_n 1, 1) := by decide +kernel
theorem dX12_findFamilies_2 : decode cX12_findFamilies 2 = .ok (.iload_n 1, 1) := by decide +kernel
theorem dX12_findFamilies_3 : decode cX12_findFamilies 3 = .ok (.sipush 288, 3) := by decide +kernel
theorem dX12_findFamilies_6 : decode cX12_findFamilies 6 = .ok (.if_icmp .ge 89, 3) := by decide +kernel
theorem dX12_findFamilies_9 : decode cX12_findFamilies 9 = .ok (.aload_n 0, 1) := by decide +kernel
theorem dX12_findFamilies_10 : decode cX12_findFamilies 10 = .ok (.getfield 117, 3) := by decide +kernel
theorem dX12_findFamilies_13 : decode cX12_findFamilies 13 = .ok (.iload_n 1, 1) := by decide +kernel
theorem dX12_findFamilies_14 : decode cX12_findFamilies 14 = .ok (.iconst (-1), 1) := by decide +kernel
theorem dX12_findFamilies_15 : decode cX12_findFamilies 15 = .ok (.iastore, 1) := by decide +kernel
theorem dX12_findFamilies_16 : decode cX12_findFamilies 16 = .ok (.iconst 0, 1) := by decide +kernel
theorem dX12_findFamilies_17 : decode cX12_findFamilies 17 = .ok (.istore_n 2, 1) := by decide +kernel
theorem dX12_findFamilies_18 : decode cX12_findFamilies 18 = .ok (.iload_n 2, 1) := by decide +kernel
theorem dX12_findFamilies_19 : decode cX12_findFamilies 19 = .ok (.iload_n 1, 1) := by decide +kernel
theorem dX12_findFamilies_20 : decode cX12_findFamilies 20 = .ok (.if_icmp .gt 69, 3) := by decide +kernel
theorem dX12_findFamilies_23 : decode cX12_findFamilies 23 = .ok (.aload_n 0, 1) := by decide +kernel
theorem dX12_findFamilies_24 : decode cX12_findFamilies 24 = .ok (.getfield 117, 3) := by decide +kernel
theorem dX12_findFamilies_27 : decode cX12_findFamilies 27 = .ok (.iload_n 1, 1) := by decide +kernel
theorem dX12_findFamilies_28 : decode cX12_findFamilies 28 = .ok (.iaload, 1) := by decide +kernel
theorem dX12_findFamilies_29 : decode cX12_findFamilies 29 = .ok (.ifCond .ge 60, 3) := by decide +kernel
theorem dX12_findFamilies_32 : decode cX12_findFamilies 32 = .ok (.aload_n 0, 1) := by decide +kernel
theorem dX12_findFamilies_33 : decode cX12_findFamilies 33 = .ok (.getfield 80, 3) := by decide +kernel
theorem dX12_findFamilies_36 : decode cX12_findFamilies 36 = .ok (.iload_n 1, 1) := by decide +kernel
theorem dX12_findFamilies_37 : decode cX12_findFamilies 37 = .ok (.iaload, 1) := by decide +kernel
theorem dX12_findFamilies_38 : decode cX12_findFamilies 38 = .ok (.iconst 2, 1) := by decide +kernel
theorem dX12_findFamilies_39 : decode cX12_findFamilies 39 = .ok (.if_icmp .ne 50, 3) := by decide +kernel
theorem dX12_findFamilies_42 : decode cX12_findFamilies 42 = .ok (.aload_n 0, 1) := by decide +kernel
theorem dX12_findFamilies_43 : decode cX12_findFamilies 43 = .ok (.getfield 80, 3) := by decide +kernel
theorem dX12_findFamilies_46 : decode cX12_findFamilies 46 = .ok (.iload_n 2, 1) := by decide +kernel
theorem dX12_findFamilies_47 : decode cX12_findFamilies 47 = .ok (.iaload, 1) := by decide +kernel
theorem dX12_findFamilies_48 : decode cX12_findFamilies 48 = .ok (.iconst 2, 1) := by decide +kernel
theorem dX12_findFamilies_49 : decode cX12_findFamilies 49 = .ok (.if_icmp .ne 34, 3) := by decide +kernel
theorem dX12_findFamilies_52 : decode cX12_findFamilies 52 = .ok (.iload_n 2, 1) := by decide +kernel
theorem dX12_findFamilies_53 : decode cX12_findFamilies 53 = .ok (.iload_n 1, 1) := by decide +kernel
theorem dX12_findFamilies_54 : decode cX12_findFamilies 54 = .ok (.if_icmp .eq 22, 3) := by decide +kernel
theorem dX12_findFamilies_57 : decode cX12_findFamilies 57 = .ok (.aload_n 0, 1) := by decide +kernel
theorem dX12_findFamilies_58 : decode cX12_findFamilies 58 = .ok (.getfield 117, 3) := by decide +kernel
theorem dX12_findFamilies_61 : decode cX12_findFamilies 61 = .ok (.iload_n 2, 1) := by decide +kernel
theorem dX12_findFamilies_62 : decode cX12_findFamilies 62 = .ok (.iaload, 1) := by decide +kernel
theorem dX12_findFamilies_63 : decode cX12_findFamilies 63 = .ok (.iload_n 2, 1) := by decide +kernel
theorem dX12_findFamilies_64 : decode cX12_findFamilies 64 = .ok (.if_icmp .ne 19, 3) := by decide +kernel
theorem dX12_findFamilies_67 : decode cX12_findFamilies 67 = .ok (.aload_n 0, 1) := by decide +kernel
theorem dX12_findFamilies_68 : decode cX12_findFamilies 68 = .ok (.iload_n 1, 1) := by decide +kernel
theorem dX12_findFamilies_69 : decode cX12_findFamilies 69 = .ok (.iload_n 2, 1) := by decide +kernel
theorem dX12_findFamilies_70 : decode cX12_findFamilies 70 = .ok (.invokevirtual 311, 3) := by decide +kernel
theorem dX12_findFamilies_73 : decode cX12_findFamilies 73 = .ok (.ifCond .eq 10, 3) := by decide +kernel
theorem dX12_findFamilies_76 : decode cX12_findFamilies 76 = .ok (.aload_n 0, 1) := by decide +kernel
theorem dX12_findFamilies_77 : decode cX12_findFamilies 77 = .ok (.getfield 117, 3) := by decide +kernel
theorem dX12_findFamilies_80 : decode cX12_findFamilies 80 = .ok (.iload_n 1, 1) := by decide +kernel
theorem dX12_findFamilies_81 : decode cX12_findFamilies 81 = .ok (.iload_n 2, 1) := by decide +kernel
theorem dX12_findFamilies_82 : decode cX12_findFamilies 82 = .ok (.iastore, 1) := by decide +kernel
theorem dX12_findFamilies_83 : decode cX12_findFamilies 83 = .ok (.iinc 2 1, 3) := by decide +kernel
theorem dX12_findFamilies_86 : decode cX12_findFamilies 86 = .ok (.goto (-68), 3) := by decide +kernel
theorem dX12_findFamilies_89 : decode cX12_findFamilies 89 = .ok (.iinc 1 1, 3) := by decide +kernel
theorem dX12_findFamilies_92 : decode cX12_findFamilies 92 = .ok (.goto (-90), 3) := by decide +kernel
theorem dX12_findFamilies_95 : decode cX12_findFamilies 95 = .ok (.return_, 1) := by decide +kernel
theorem dX12_check_0 : decode cX12_check 0 = .ok (.aload_n 0, 1) := by decide +kernel
theorem dX12_check_1 : decode cX12_check 1 = .ok (.iconst 0, 1) := by decide +kernel
theorem dX12_check_2 : decode cX12_check 2 = .ok (.putfield 1, 3) := by decide +kernel
theorem dX12_check_5 : decode cX12_check 5 = .ok (.aload_n 0, 1) := by decide +kernel
theorem dX12_check_6 : decode cX12_check 6 = .ok (.iconst 0, 1) := by decide +kernel
theorem dX12_check_7 : decode cX12_check 7 = .ok (.putfield 314, 3) := by decide +kernel
theorem dX12_check_10 : decode cX12_check 10 = .ok (.iconst 0, 1) := by decide +kernel
theorem dX12_check_11 : decode cX12_check 11 = .ok (.istore_n 1, 1) := by decide +kernel
theorem dX12_check_12 : decode cX12_check 12 = .ok (.iload_n 1, 1) := by decide +kernel
theorem dX12_check_13 : decode cX12_check 13 = .ok (.sipush 288, 3) := by decide +kernel
theorem dX12_check_16 : decode cX12_check 16 = .ok (.if_icmp .ge 133, 3) := by decide +kernel
theorem dX12_check_19 : decode cX12_check 19 = .ok (.aload_n 0, 1) := by decide +kernel
theorem dX12_check_20 : decode cX12_check 20 = .ok (.iload_n 1, 1) := by decide +kernel
theorem dX12_check_21 : decode cX12_check 21 = .ok (.invokevirtual 327, 3) := by decide +kernel
theorem dX12_check_24 : decode cX12_check 24 = .ok (.istore_n 2, 1) := by decide +kernel
theorem dX12_check_25 : decode cX12_check 25 = .ok (.iload_n 2, 1) := by decide +kernel
theorem dX12_check_26 : decode cX12_check 26 = .ok (.ifCond .lt 24, 3) := by decide +kernel
theorem dX12_check_29 : decode cX12_check 29 = .ok (.aload_n 0, 1) := by decide +kernel
theorem dX12_check_30 : decode cX12_check 30 = .ok (.aload_n 0, 1) := by decide +kernel
theorem dX12_check_31 : decode cX12_check 31 = .ok (.getfield 80, 3) := by decide +kernel
theorem dX12_check_34 : decode cX12_check 34 = .ok (.iload_n 1, 1) := by decide +kernel
theorem dX12_check_35 : decode cX12_check 35 = .ok (.iaload, 1) := by decide +kernel
theorem dX12_check_36 : decode cX12_check 36 = .ok (.iconst 2, 1) := by decide +kernel
theorem dX12_check_37 : decode cX12_check 37 = .ok (.if_icmp .ne 7, 3) := by decide +kernel
theorem dX12_check_40 : decode cX12_check 40 = .ok (.iconst 1, 1) := by decide +kernel
theorem dX12_check_41 : decode cX12_check 41 = .ok (.goto 4, 3) := by decide +kernel
theorem dX12_check_44 : decode cX12_check 44 = .ok (.iconst 2, 1) := by decide +kernel
theorem dX12_check_45 : decode cX12_check 45 = .ok (.iload_n 1, 1) := by decide +kernel
theorem dX12_check_46 : decode cX12_check 46 = .ok (.iload_n 2, 1) := by decide +kernel
theorem dX12_check_47 : decode cX12_check 47 = .ok (.invokevirtual 324, 3) := by decide +kernel
theorem dX12_check_50 : decode cX12_check 50 = .ok (.aload_n 0, 1) := by decide +kernel
theorem dX12_check_51 : decode cX12_check 51 = .ok (.getfield 80, 3) := by decide +kernel
theorem dX12_check_54 : decode cX12_check 54 = .ok (.iload_n 1, 1) := by decide +kernel
theorem dX12_check_55 : decode cX12_check 55 = .ok (.iaload, 1) := by decide +kernel
theorem dX12_check_56 : decode cX12_check 56 = .ok (.iconst 2, 1) := by decide +kernel
theorem dX12_check_57 : decode cX12_check 57 = .ok (.if_icmp .ne 8, 3) := by decide +kernel
theorem dX12_check_60 : decode cX12_check 60 = .ok (.aload_n 0, 1) := by decide +kernel
theorem dX12_check_61 : decode cX12_check 61 = .ok (.iload_n 1, 1) := by decide +kernel
theorem dX12_check_62 : decode cX12_check 62 = .ok (.invokevirtual 330, 3) := by decide +kernel
theorem dX12_check_65 : decode cX12_check 65 = .ok (.aload_n 0, 1) := by decide +kernel
theorem dX12_check_66 : decode cX12_check 66 = .ok (.getfield 114, 3) := by decide +kernel
theorem dX12_check_69 : decode cX12_check 69 = .ok (.iload_n 1, 1) := by decide +kernel
theorem dX12_check_70 : decode cX12_check 70 = .ok (.baload, 1) := by decide +kernel
theorem dX12_check_71 : decode cX12_check 71 = .ok (.ifCond .eq 22, 3) := by decide +kernel
theorem dX12_check_74 : decode cX12_check 74 = .ok (.aload_n 0, 1) := by decide +kernel
theorem dX12_check_75 : decode cX12_check 75 = .ok (.iload_n 1, 1) := by decide +kernel
theorem dX12_check_76 : decode cX12_check 76 = .ok (.invokevirtual 333, 3) := by decide +kernel
theorem dX12_check_79 : decode cX12_check 79 = .ok (.ifCond .lt 14, 3) := by decide +kernel
theorem dX12_check_82 : decode cX12_check 82 = .ok (.aload_n 0, 1) := by decide +kernel
theorem dX12_check_83 : decode cX12_check 83 = .ok (.iconst 4, 1) := by decide +kernel
theorem dX12_check_84 : decode cX12_check 84 = .ok (.iload_n 1, 1) := by decide +kernel
theorem dX12_check_85 : decode cX12_check 85 = .ok (.aload_n 0, 1) := by decide +kernel
theorem dX12_check_86 : decode cX12_check 86 = .ok (.iload_n 1, 1) := by decide +kernel
theorem dX12_check_87 : decode cX12_check 87 = .ok (.invokevirtual 333, 3) := by decide +kernel
theorem dX12_check_90 : decode cX12_check 90 = .ok (.invokevirtual 324, 3) := by decide +kernel
theorem dX12_check_93 : decode cX12_check 93 = .ok (.aload_n 0, 1) := by decide +kernel
theorem dX12_check_94 : decode cX12_check 94 = .ok (.getfield 80, 3) := by decide +kernel
theorem dX12_check_97 : decode cX12_check 97 = .ok (.iload_n 1, 1) := by decide +kernel
theorem dX12_check_98 : decode cX12_check 98 = .ok (.iaload, 1) := by decide +kernel
theorem dX12_check_99 : decode cX12_check 99 = .ok (.ifCond .eq 27, 3) := by decide +kernel
theorem dX12_check_102 : decode cX12_check 102 = .ok (.aload_n 0, 1) := by decide +kernel
theorem dX12_check_103 : decode cX12_check 103 = .ok (.iload_n 1, 1) := by decide +kernel
theorem dX12_check_104 : decode cX12_check 104 = .ok (.invokevirtual 336, 3) := by decide +kernel
theorem dX12_check_107 : decode cX12_check 107 = .ok (.ifCond .ne 19, 3) := by decide +kernel
theorem dX12_check_110 : decode cX12_check 110 = .ok (.aload_n 0, 1) := by decide +kernel
theorem dX12_check_111 : decode cX12_check 111 = .ok (.getfield 89, 3) := by decide +kernel
theorem dX12_check_114 : decode cX12_check 114 = .ok (.iload_n 1, 1) := by decide +kernel
theorem dX12_check_115 : decode cX12_check 115 = .ok (.baload, 1) := by decide +kernel
theorem dX12_check_116 : decode cX12_check 116 = .ok (.ifCond .ne 10, 3) := by decide +kernel
theorem dX12_check_119 : decode cX12_check 119 = .ok (.aload_n 0, 1) := by decide +kernel
theorem dX12_check_120 : decode cX12_check 120 = .ok (.iconst 5, 1) := by decide +kernel
theorem dX12_check_121 : decode cX12_check 121 = .ok (.iload_n 1, 1) := by decide +kernel
theorem dX12_check_122 : decode cX12_check 122 = .ok (.iconst (-1), 1) := by decide +kernel
theorem dX12_check_123 : decode cX12_check 123 = .ok (.invokevirtual 324, 3) := by decide +kernel
theorem dX12_check_126 : decode cX12_check 126 = .ok (.aload_n 0, 1) := by decide +kernel
theorem dX12_check_127 : decode cX12_check 127 = .ok (.getfield 111, 3) := by decide +kernel
theorem dX12_check_130 : decode cX12_check 130 = .ok (.iload_n 1, 1) := by decide +kernel
theorem dX12_check_131 : decode cX12_check 131 = .ok (.baload, 1) := by decide +kernel
theorem dX12_check_132 : decode cX12_check 132 = .ok (.ifCond .eq 11, 3) := by decide +kernel
theorem dX12_check_135 : decode cX12_check 135 = .ok (.aload_n 0, 1) := by decide +kernel
theorem dX12_check_136 : decode cX12_check 136 = .ok (.bipush 6, 2) := by decide +kernel
theorem dX12_check_138 : decode cX12_check 138 = .ok (.iload_n 1, 1) := by decide +kernel
theorem dX12_check_139 : decode cX12_check 139 = .ok (.iconst (-1), 1) := by decide +kernel
theorem dX12_check_140 : decode cX12_check 140 = .ok (.invokevirtual 324, 3) := by decide +kernel
theorem dX12_check_143 : decode cX12_check 143 = .ok (.iinc 1 1, 3) := by decide +kernel
theorem dX12_check_146 : decode cX12_check 146 = .ok (.goto (-134), 3) := by decide +kernel
theorem dX12_check_149 : decode cX12_check 149 = .ok (.aload_n 0, 1) := by decide +kernel
theorem dX12_check_150 : decode cX12_check 150 = .ok (.getfield 314, 3) := by decide +kernel
theorem dX12_check_153 : decode cX12_check 153 = .ok (.ireturn, 1) := by decide +kernel
theorem dX12_oddBy_0 : decode cX12_oddBy 0 = .ok (.aload_n 0, 1) := by decide +kernel
theorem dX12_oddBy_1 : decode cX12_oddBy 1 = .ok (.getfield 80, 3) := by decide +kernel
theorem dX12_oddBy_4 : decode cX12_oddBy 4 = .ok (.iload_n 1, 1) := by decide +kernel
theorem dX12_oddBy_5 : decode cX12_oddBy 5 = .ok (.iaload, 1) := by decide +kernel
theorem dX12_oddBy_6 : decode cX12_oddBy 6 = .ok (.ifCond .ne 5, 3) := by decide +kernel
theorem dX12_oddBy_9 : decode cX12_oddBy 9 = .ok (.iconst (-1), 1) := by decide +kernel
theorem dX12_oddBy_10 : decode cX12_oddBy 10 = .ok (.ireturn, 1) := by decide +kernel
theorem dX12_oddBy_11 : decode cX12_oddBy 11 = .ok (.iload_n 1, 1) := by decide +kernel
theorem dX12_oddBy_12 : decode cX12_oddBy 12 = .ok (.bipush 12, 2) := by decide +kernel
theorem dX12_oddBy_14 : decode cX12_oddBy 14 = .ok (.irem, 1) := by decide +kernel
theorem dX12_oddBy_15 : decode cX12_oddBy 15 = .ok (.istore_n 2, 1) := by decide +kernel
theorem dX12_oddBy_16 : decode cX12_oddBy 16 = .ok (.iload_n 1, 1) := by decide +kernel
theorem dX12_oddBy_17 : decode cX12_oddBy 17 = .ok (.bipush 12, 2) := by decide +kernel
theorem dX12_oddBy_19 : decode cX12_oddBy 19 = .ok (.idiv, 1) := by decide +kernel
theorem dX12_oddBy_20 : decode cX12_oddBy 20 = .ok (.istore_n 3, 1) := by decide +kernel
theorem dX12_oddBy_21 : decode cX12_oddBy 21 = .ok (.aload_n 0, 1) := by decide +kernel
theorem dX12_oddBy_22 : decode cX12_oddBy 22 = .ok (.iload_n 2, 1) := by decide +kernel
theorem dX12_oddBy_23 : decode cX12_oddBy 23 = .ok (.iconst 1, 1) := by decide +kernel
theorem dX12_oddBy_24 : decode cX12_oddBy 24 = .ok (.isub, 1) := by decide +kernel
theorem dX12_oddBy_25 : decode cX12_oddBy 25 = .ok (.iload_n 3, 1) := by decide +kernel
theorem dX12_oddBy_26 : decode cX12_oddBy 26 = .ok (.invokevirtual 317, 3) := by decide +kernel
theorem dX12_oddBy_29 : decode cX12_oddBy 29 = .ok (.istore 4, 2) := by decide +kernel
theorem dX12_oddBy_31 : decode cX12_oddBy 31 = .ok (.iload 4, 2) := by decide +kernel
theorem dX12_oddBy_33 : decode cX12_oddBy 33 = .ok (.ifCond .lt 31, 3) := by decide +kernel
theorem dX12_oddBy_36 : decode cX12_oddBy 36 = .ok (.iload 4, 2) := by decide +kernel
theorem dX12_oddBy_38 : decode cX12_oddBy 38 = .ok (.aload_n 0, 1) := by decide +kernel
theorem dX12_oddBy_39 : decode cX12_oddBy 39 = .ok (.iload_n 2, 1) := by decide +kernel
theorem dX12_oddBy_40 : decode cX12_oddBy 40 = .ok (.iconst 1, 1) := by decide +kernel
theorem dX12_oddBy_41 : decode cX12_oddBy 41 = .ok (.iadd, 1) := by decide +kernel
theorem dX12_oddBy_42 : decode cX12_oddBy 42 = .ok (.iload_n 3, 1) := by decide +kernel
theorem dX12_oddBy_43 : decode cX12_oddBy 43 = .ok (.invokevirtual 317, 3) := by decide +kernel
theorem dX12_oddBy_46 : decode cX12_oddBy 46 = .ok (.if_icmp .ne 18, 3) := by decide +kernel
theorem dX12_oddBy_49 : decode cX12_oddBy 49 = .ok (.iload 4, 2) := by decide +kernel
theorem dX12_oddBy_51 : decode cX12_oddBy 51 = .ok (.aload_n 0, 1) := by decide +kernel
theorem dX12_oddBy_52 : decode cX12_oddBy 52 = .ok (.getfield 117, 3) := by decide +kernel
theorem dX12_oddBy_55 : decode cX12_oddBy 55 = .ok (.iload_n 1, 1) := by decide +kernel
theorem dX12_oddBy_56 : decode cX12_oddBy 56 = .ok (.iaload, 1) := by decide +kernel
theorem dX12_oddBy_57 : decode cX12_oddBy 57 = .ok (.if_icmp .eq 7, 3) := by decide +kernel
theorem dX12_oddBy_60 : decode cX12_oddBy 60 = .ok (.iload_n 1, 1) := by decide +kernel
theorem dX12_oddBy_61 : decode cX12_oddBy 61 = .ok (.iconst 1, 1) := by decide +kernel
theorem dX12_oddBy_62 : decode cX12_oddBy 62 = .ok (.isub, 1) := by decide +kernel
theorem dX12_oddBy_63 : decode cX12_oddBy 63 = .ok (.ireturn, 1) := by decide +kernel
theorem dX12_oddBy_64 : decode cX12_oddBy 64 = .ok (.aload_n 0, 1) := by decide +kernel
theorem dX12_oddBy_65 : decode cX12_oddBy 65 = .ok (.iload_n 2, 1) := by decide +kernel
theorem dX12_oddBy_66 : decode cX12_oddBy 66 = .ok (.iload_n 3, 1) := by decide +kernel
theorem dX12_oddBy_67 : decode cX12_oddBy 67 = .ok (.iconst 1, 1) := by decide +kernel
theorem dX12_oddBy_68 : decode cX12_oddBy 68 = .ok (.isub, 1) := by decide +kernel
theorem dX12_oddBy_69 : decode cX12_oddBy 69 = .ok (.invokevirtual 317, 3) := by decide +kernel
theorem dX12_oddBy_72 : decode cX12_oddBy 72 = .ok (.istore 5, 2) := by decide +kernel
theorem dX12_oddBy_74 : decode cX12_oddBy 74 = .ok (.iload 5, 2) := by decide +kernel
theorem dX12_oddBy_76 : decode cX12_oddBy 76 = .ok (.ifCond .lt 34, 3) := by decide +kernel
theorem dX12_oddBy_79 : decode cX12_oddBy 79 = .ok (.iload 5, 2) := by decide +kernel
theorem dX12_oddBy_81 : decode cX12_oddBy 81 = .ok (.aload_n 0, 1) := by decide +kernel
theorem dX12_oddBy_82 : decode cX12_oddBy 82 = .ok (.iload_n 2, 1) := by decide +kernel
theorem dX12_oddBy_83 : decode cX12_oddBy 83 = .ok (.iload_n 3, 1) := by decide +kernel
theorem dX12_oddBy_84 : decode cX12_oddBy 84 = .ok (.iconst 1, 1) := by decide +kernel
theorem dX12_oddBy_85 : decode cX12_oddBy 85 = .ok (.iadd, 1) := by decide +kernel
theorem dX12_oddBy_86 : decode cX12_oddBy 86 = .ok (.invokevirtual 317, 3) := by decide +kernel
theorem dX12_oddBy_89 : decode cX12_oddBy 89 = .ok (.if_icmp .ne 21, 3) := by decide +kernel
theorem dX12_oddBy_92 : decode cX12_oddBy 92 = .ok (.iload 5, 2) := by decide +kernel
theorem dX12_oddBy_94 : decode cX12_oddBy 94 = .ok (.aload_n 0, 1) := by decide +kernel
theorem dX12_oddBy_95 : decode cX12_oddBy 95 = .ok (.getfield 117, 3) := by decide +kernel
theorem dX12_oddBy_98 : decode cX12_oddBy 98 = .ok (.iload_n 1, 1) := by decide +kernel
theorem dX12_oddBy_99 : decode cX12_oddBy 99 = .ok (.iaload, 1) := by decide +kernel
theorem dX12_oddBy_100 : decode cX12_oddBy 100 = .ok (.if_icmp .eq 10, 3) := by decide +kernel
theorem dX12_oddBy_103 : decode cX12_oddBy 103 = .ok (.iload_n 1, 1) := by decide +kernel
theorem dX12_oddBy_104 : decode cX12_oddBy 104 = .ok (.bipush 12, 2) := by decide +kernel
theorem dX12_oddBy_106 : decode cX12_oddBy 106 = .ok (.isub, 1) := by decide +kernel
theorem dX12_oddBy_107 : decode cX12_oddBy 107 = .ok (.goto 4, 3) := by decide +kernel
theorem dX12_oddBy_110 : decode cX12_oddBy 110 = .ok (.iconst (-1), 1) := by decide +kernel
theorem dX12_oddBy_111 : decode cX12_oddBy 111 = .ok (.ireturn, 1) := by decide +kernel
theorem dX12_finding_0 : decode cX12_finding 0 = .ok (.aload_n 0, 1) := by decide +kernel
theorem dX12_finding_1 : decode cX12_finding 1 = .ok (.iconst 0, 1) := by decide +kernel
theorem dX12_finding_2 : decode cX12_finding 2 = .ok (.putfield 1, 3) := by decide +kernel
theorem dX12_finding_5 : decode cX12_finding 5 = .ok (.iload_n 1, 1) := by decide +kernel
theorem dX12_finding_6 : decode cX12_finding 6 = .ok (.ifCond .lt 27, 3) := by decide +kernel
theorem dX12_finding_9 : decode cX12_finding 9 = .ok (.iload_n 1, 1) := by decide +kernel
theorem dX12_finding_10 : decode cX12_finding 10 = .ok (.aload_n 0, 1) := by decide +kernel
theorem dX12_finding_11 : decode cX12_finding 11 = .ok (.getfield 314, 3) := by decide +kernel
theorem dX12_finding_14 : decode cX12_finding 14 = .ok (.if_icmp .ge 19, 3) := by decide +kernel
theorem dX12_finding_17 : decode cX12_finding 17 = .ok (.iload_n 1, 1) := by decide +kernel
theorem dX12_finding_18 : decode cX12_finding 18 = .ok (.sipush 300, 3) := by decide +kernel
theorem dX12_finding_21 : decode cX12_finding 21 = .ok (.if_icmp .ge 12, 3) := by decide +kernel
theorem dX12_finding_24 : decode cX12_finding 24 = .ok (.iload_n 2, 1) := by decide +kernel
theorem dX12_finding_25 : decode cX12_finding 25 = .ok (.ifCond .lt 8, 3) := by decide +kernel
theorem dX12_finding_28 : decode cX12_finding 28 = .ok (.iload_n 2, 1) := by decide +kernel
theorem dX12_finding_29 : decode cX12_finding 29 = .ok (.iconst 2, 1) := by decide +kernel
theorem dX12_finding_30 : decode cX12_finding 30 = .ok (.if_icmp .le 7, 3) := by decide +kernel
theorem dX12_finding_33 : decode cX12_finding 33 = .ok (.iconst (-1), 1) := by decide +kernel
theorem dX12_finding_34 : decode cX12_finding 34 = .ok (.goto 13, 3) := by decide +kernel
theorem dX12_finding_37 : decode cX12_finding 37 = .ok (.aload_n 0, 1) := by decide +kernel
theorem dX12_finding_38 : decode cX12_finding 38 = .ok (.getfield 130, 3) := by decide +kernel
theorem dX12_finding_41 : decode cX12_finding 41 = .ok (.iconst 3, 1) := by decide +kernel
theorem dX12_finding_42 : decode cX12_finding 42 = .ok (.iload_n 1, 1) := by decide +kernel
theorem dX12_finding_43 : decode cX12_finding 43 = .ok (.imul, 1) := by decide +kernel
theorem dX12_finding_44 : decode cX12_finding 44 = .ok (.iload_n 2, 1) := by decide +kernel
theorem dX12_finding_45 : decode cX12_finding 45 = .ok (.iadd, 1) := by decide +kernel
theorem dX12_finding_46 : decode cX12_finding 46 = .ok (.iaload, 1) := by decide +kernel
theorem dX12_finding_47 : decode cX12_finding 47 = .ok (.ireturn, 1) := by decide +kernel
theorem dX12_mend_0 : decode cX12_mend 0 = .ok (.aload_n 0, 1) := by decide +kernel
theorem dX12_mend_1 : decode cX12_mend 1 = .ok (.iconst 0, 1) := by decide +kernel
theorem dX12_mend_2 : decode cX12_mend 2 = .ok (.putfield 1, 3) := by decide +kernel
theorem dX12_mend_5 : decode cX12_mend 5 = .ok (.iload_n 1, 1) := by decide +kernel
theorem dX12_mend_6 : decode cX12_mend 6 = .ok (.invokestatic 198, 3) := by decide +kernel
theorem dX12_mend_9 : decode cX12_mend 9 = .ok (.ifCond .eq 11, 3) := by decide +kernel
theorem dX12_mend_12 : decode cX12_mend 12 = .ok (.aload_n 0, 1) := by decide +kernel
theorem dX12_mend_13 : decode cX12_mend 13 = .ok (.iload_n 1, 1) := by decide +kernel
theorem dX12_mend_14 : decode cX12_mend 14 = .ok (.invokevirtual 327, 3) := by decide +kernel
theorem dX12_mend_17 : decode cX12_mend 17 = .ok (.goto 4, 3) := by decide +kernel
theorem dX12_mend_20 : decode cX12_mend 20 = .ok (.iconst (-1), 1) := by decide +kernel
theorem dX12_mend_21 : decode cX12_mend 21 = .ok (.istore_n 2, 1) := by decide +kernel
theorem dX12_mend_22 : decode cX12_mend 22 = .ok (.iload_n 2, 1) := by decide +kernel
theorem dX12_mend_23 : decode cX12_mend 23 = .ok (.ifCond .lt 12, 3) := by decide +kernel
theorem dX12_mend_26 : decode cX12_mend 26 = .ok (.aload_n 0, 1) := by decide +kernel
theorem dX12_mend_27 : decode cX12_mend 27 = .ok (.iload_n 2, 1) := by decide +kernel
theorem dX12_mend_28 : decode cX12_mend 28 = .ok (.iload_n 1, 1) := by decide +kernel
theorem dX12_mend_29 : decode cX12_mend 29 = .ok (.invokevirtual 210, 3) := by decide +kernel
theorem dX12_mend_32 : decode cX12_mend 32 = .ok (.ifCond .ne 5, 3) := by decide +kernel
theorem dX12_mend_35 : decode cX12_mend 35 = .ok (.iconst (-1), 1) := by decide +kernel
theorem dX12_mend_36 : decode cX12_mend 36 = .ok (.ireturn, 1) := by decide +kernel
theorem dX12_mend_37 : decode cX12_mend 37 = .ok (.aload_n 0, 1) := by decide +kernel
theorem dX12_mend_38 : decode cX12_mend 38 = .ok (.invokevirtual 342, 3) := by decide +kernel
theorem dX12_mend_41 : decode cX12_mend 41 = .ok (.aload_n 0, 1) := by decide +kernel
theorem dX12_mend_42 : decode cX12_mend 42 = .ok (.iload_n 1, 1) := by decide +kernel
theorem dX12_mend_43 : decode cX12_mend 43 = .ok (.invokevirtual 207, 3) := by decide +kernel
theorem dX12_mend_46 : decode cX12_mend 46 = .ok (.aload_n 0, 1) := by decide +kernel
theorem dX12_mend_47 : decode cX12_mend 47 = .ok (.invokevirtual 345, 3) := by decide +kernel
theorem dX12_mend_50 : decode cX12_mend 50 = .ok (.ireturn, 1) := by decide +kernel
theorem dX12_stretch_0 : decode cX12_stretch 0 = .ok (.aload_n 0, 1) := by decide +kernel
theorem dX12_stretch_1 : decode cX12_stretch 1 = .ok (.iconst 0, 1) := by decide +kernel
theorem dX12_stretch_2 : decode cX12_stretch 2 = .ok (.putfield 1, 3) := by decide +kernel
theorem dX12_stretch_5 : decode cX12_stretch 5 = .ok (.iload_n 1, 1) := by decide +kernel
theorem dX12_stretch_6 : decode cX12_stretch 6 = .ok (.invokestatic 198, 3) := by decide +kernel
theorem dX12_stretch_9 : decode cX12_stretch 9 = .ok (.ifCond .eq 22, 3) := by decide +kernel
theorem dX12_stretch_12 : decode cX12_stretch 12 = .ok (.aload_n 0, 1) := by decide +kernel
theorem dX12_stretch_13 : decode cX12_stretch 13 = .ok (.getfield 80, 3) := by decide +kernel
theorem dX12_stretch_16 : decode cX12_stretch 16 = .ok (.iload_n 1, 1) := by decide +kernel
theorem dX12_stretch_17 : decode cX12_stretch 17 = .ok (.iaload, 1) := by decide +kernel
theorem dX12_stretch_18 : decode cX12_stretch 18 = .ok (.iconst 2, 1) := by decide +kernel
theorem dX12_stretch_19 : decode cX12_stretch 19 = .ok (.if_icmp .ne 12, 3) := by decide +kernel
theorem dX12_stretch_22 : decode cX12_stretch 22 = .ok (.aload_n 0, 1) := by decide +kernel
theorem dX12_stretch_23 : decode cX12_stretch 23 = .ok (.iload_n 1, 1) := by decide +kernel
theorem dX12_stretch_24 : decode cX12_stretch 24 = .ok (.iload_n 2, 1) := by decide +kernel
theorem dX12_stretch_25 : decode cX12_stretch 25 = .ok (.invokevirtual 348, 3) := by decide +kernel
theorem dX12_stretch_28 : decode cX12_stretch 28 = .ok (.goto 4, 3) := by decide +kernel
theorem dX12_stretch_31 : decode cX12_stretch 31 = .ok (.iconst (-1), 1) := by decide +kernel
theorem dX12_stretch_32 : decode cX12_stretch 32 = .ok (.istore_n 3, 1) := by decide +kernel
theorem dX12_stretch_33 : decode cX12_stretch 33 = .ok (.iload_n 3, 1) := by decide +kernel
theorem dX12_stretch_34 : decode cX12_stretch 34 = .ok (.ifCond .ge 5, 3) := by decide +kernel
theorem dX12_stretch_37 : decode cX12_stretch 37 = .ok (.iconst (-1), 1) := by decide +kernel
theorem dX12_stretch_38 : decode cX12_stretch 38 = .ok (.ireturn, 1) := by decide +kernel
theorem dX12_stretch_39 : decode cX12_stretch 39 = .ok (.aload_n 0, 1) := by decide +kernel
theorem dX12_stretch_40 : decode cX12_stretch 40 = .ok (.iload_n 1, 1) := by decide +kernel
theorem dX12_stretch_41 : decode cX12_stretch 41 = .ok (.bipush 120, 2) := by decide +kernel
theorem dX12_stretch_43 : decode cX12_stretch 43 = .ok (.iload_n 1, 1) := by decide +kernel
theorem dX12_stretch_44 : decode cX12_stretch 44 = .ok (.imul, 1) := by decide +kernel
theorem dX12_stretch_45 : decode cX12_stretch 45 = .ok (.iload_n 3, 1) := by decide +kernel
theorem dX12_stretch_46 : decode cX12_stretch 46 = .ok (.iadd, 1) := by decide +kernel
theorem dX12_stretch_47 : decode cX12_stretch 47 = .ok (.iconst 2, 1) := by decide +kernel
theorem dX12_stretch_48 : decode cX12_stretch 48 = .ok (.iadd, 1) := by decide +kernel
theorem dX12_stretch_49 : decode cX12_stretch 49 = .ok (.iconst 1, 1) := by decide +kernel
theorem dX12_stretch_50 : decode cX12_stretch 50 = .ok (.invokevirtual 320, 3) := by decide +kernel
theorem dX12_stretch_53 : decode cX12_stretch 53 = .ok (.ifCond .lt 7, 3) := by decide +kernel
theorem dX12_stretch_56 : decode cX12_stretch 56 = .ok (.iconst 1, 1) := by decide +kernel
theorem dX12_stretch_57 : decode cX12_stretch 57 = .ok (.goto 4, 3) := by decide +kernel
theorem dX12_stretch_60 : decode cX12_stretch 60 = .ok (.iconst 0, 1) := by decide +kernel
theorem dX12_stretch_61 : decode cX12_stretch 61 = .ok (.istore 4, 2) := by decide +kernel
theorem dX12_stretch_63 : decode cX12_stretch 63 = .ok (.iload 4, 2) := by decide +kernel
theorem dX12_stretch_65 : decode cX12_stretch 65 = .ok (.ifCond .ne 22, 3) := by decide +kernel
theorem dX12_stretch_68 : decode cX12_stretch 68 = .ok (.aload_n 0, 1) := by decide +kernel
theorem dX12_stretch_69 : decode cX12_stretch 69 = .ok (.iload_n 1, 1) := by decide +kernel
theorem dX12_stretch_70 : decode cX12_stretch 70 = .ok (.bipush 120, 2) := by decide +kernel
theorem dX12_stretch_72 : decode cX12_stretch 72 = .ok (.iload_n 1, 1) := by decide +kernel
theorem dX12_stretch_73 : decode cX12_stretch 73 = .ok (.imul, 1) := by decide +kernel
theorem dX12_stretch_74 : decode cX12_stretch 74 = .ok (.iload_n 3, 1) := by decide +kernel
theorem dX12_stretch_75 : decode cX12_stretch 75 = .ok (.iadd, 1) := by decide +kernel
theorem dX12_stretch_76 : decode cX12_stretch 76 = .ok (.iconst 2, 1) := by decide +kernel
theorem dX12_stretch_77 : decode cX12_stretch 77 = .ok (.iadd, 1) := by decide +kernel
theorem dX12_stretch_78 : decode cX12_stretch 78 = .ok (.iconst 0, 1) := by decide +kernel
theorem dX12_stretch_79 : decode cX12_stretch 79 = .ok (.invokevirtual 320, 3) := by decide +kernel
theorem dX12_stretch_82 : decode cX12_stretch 82 = .ok (.ifCond .ge 5, 3) := by decide +kernel
theorem dX12_stretch_85 : decode cX12_stretch 85 = .ok (.iconst (-1), 1) := by decide +kernel
theorem dX12_stretch_86 : decode cX12_stretch 86 = .ok (.ireturn, 1) := by decide +kernel
theorem dX12_stretch_87 : decode cX12_stretch 87 = .ok (.aload_n 0, 1) := by decide +kernel
theorem dX12_stretch_88 : decode cX12_stretch 88 = .ok (.iload_n 1, 1) := by decide +kernel
theorem dX12_stretch_89 : decode cX12_stretch 89 = .ok (.sipush 288, 3) := by decide +kernel
theorem dX12_stretch_92 : decode cX12_stretch 92 = .ok (.invokevirtual 191, 3) := by decide +kernel
theorem dX12_stretch_95 : decode cX12_stretch 95 = .ok (.aload_n 0, 1) := by decide +kernel
theorem dX12_stretch_96 : decode cX12_stretch 96 = .ok (.getfield 71, 3) := by decide +kernel
theorem dX12_stretch_99 : decode cX12_stretch 99 = .ok (.ldc 142, 2) := by decide +kernel
theorem dX12_stretch_101 : decode cX12_stretch 101 = .ok (.iload_n 3, 1) := by decide +kernel
theorem dX12_stretch_102 : decode cX12_stretch 102 = .ok (.iadd, 1) := by decide +kernel
theorem dX12_stretch_103 : decode cX12_stretch 103 = .ok (.iconst 4, 1) := by decide +kernel
theorem dX12_stretch_104 : decode cX12_stretch 104 = .ok (.iadd, 1) := by decide +kernel
theorem dX12_stretch_105 : decode cX12_stretch 105 = .ok (.dup2, 1) := by decide +kernel
theorem dX12_stretch_106 : decode cX12_stretch 106 = .ok (.iaload, 1) := by decide +kernel
theorem dX12_stretch_107 : decode cX12_stretch 107 = .ok (.iload 4, 2) := by decide +kernel
theorem dX12_stretch_109 : decode cX12_stretch 109 = .ok (.ifCond .eq 7, 3) := by decide +kernel
theorem dX12_stretch_112 : decode cX12_stretch 112 = .ok (.iconst 1, 1) := by decide +kernel
theorem dX12_stretch_113 : decode cX12_stretch 113 = .ok (.goto 4, 3) := by decide +kernel
theorem dX12_stretch_116 : decode cX12_stretch 116 = .ok (.iconst 0, 1) := by decide +kernel
theorem dX12_stretch_117 : decode cX12_stretch 117 = .ok (.iadd, 1) := by decide +kernel
theorem dX12_stretch_118 : decode cX12_stretch 118 = .ok (.iastore, 1) := by decide +kernel
theorem dX12_stretch_119 : decode cX12_stretch 119 = .ok (.aload_n 0, 1) := by decide +kernel
theorem dX12_stretch_120 : decode cX12_stretch 120 = .ok (.getfield 68, 3) := by decide +kernel
theorem dX12_stretch_123 : decode cX12_stretch 123 = .ok (.ldc 142, 2) := by decide +kernel
theorem dX12_stretch_125 : decode cX12_stretch 125 = .ok (.iload_n 3, 1) := by decide +kernel
theorem dX12_stretch_126 : decode cX12_stretch 126 = .ok (.iadd, 1) := by decide +kernel
theorem dX12_stretch_127 : decode cX12_stretch 127 = .ok (.iconst 4, 1) := by decide +kernel
theorem dX12_stretch_128 : decode cX12_stretch 128 = .ok (.iadd, 1) := by decide +kernel
theorem dX12_stretch_129 : decode cX12_stretch 129 = .ok (.dup2, 1) := by decide +kernel
theorem dX12_stretch_130 : decode cX12_stretch 130 = .ok (.iaload, 1) := by decide +kernel
theorem dX12_stretch_131 : decode cX12_stretch 131 = .ok (.iload 4, 2) := by decide +kernel
theorem dX12_stretch_133 : decode cX12_stretch 133 = .ok (.ifCond .eq 7, 3) := by decide +kernel
theorem dX12_stretch_136 : decode cX12_stretch 136 = .ok (.iconst 0, 1) := by decide +kernel
theorem dX12_stretch_137 : decode cX12_stretch 137 = .ok (.goto 4, 3) := by decide +kernel
theorem dX12_stretch_140 : decode cX12_stretch 140 = .ok (.iconst 1, 1) := by decide +kernel
theorem dX12_stretch_141 : decode cX12_stretch 141 = .ok (.iadd, 1) := by decide +kernel
theorem dX12_stretch_142 : decode cX12_stretch 142 = .ok (.iastore, 1) := by decide +kernel
theorem dX12_stretch_143 : decode cX12_stretch 143 = .ok (.aload_n 0, 1) := by decide +kernel
theorem dX12_stretch_144 : decode cX12_stretch 144 = .ok (.invokevirtual 342, 3) := by decide +kernel
theorem dX12_stretch_147 : decode cX12_stretch 147 = .ok (.aload_n 0, 1) := by decide +kernel
theorem dX12_stretch_148 : decode cX12_stretch 148 = .ok (.iload_n 1, 1) := by decide +kernel
theorem dX12_stretch_149 : decode cX12_stretch 149 = .ok (.invokevirtual 207, 3) := by decide +kernel
theorem dX12_stretch_152 : decode cX12_stretch 152 = .ok (.aload_n 0, 1) := by decide +kernel
theorem dX12_stretch_153 : decode cX12_stretch 153 = .ok (.invokevirtual 345, 3) := by decide +kernel
theorem dX12_stretch_156 : decode cX12_stretch 156 = .ok (.ireturn, 1) := by decide +kernel
theorem dX12_changed_0 : decode cX12_changed 0 = .ok (.aload_n 0, 1) := by decide +kernel
theorem dX12_changed_1 : decode cX12_changed 1 = .ok (.iconst 0, 1) := by decide +kernel
theorem dX12_changed_2 : decode cX12_changed 2 = .ok (.putfield 1, 3) := by decide +kernel
theorem dX12_changed_5 : decode cX12_changed 5 = .ok (.iload_n 1, 1) := by decide +kernel
theorem dX12_changed_6 : decode cX12_changed 6 = .ok (.ifCond .lt 20, 3) := by decide +kernel
theorem dX12_changed_9 : decode cX12_changed 9 = .ok (.iload_n 1, 1) := by decide +kernel
theorem dX12_changed_10 : decode cX12_changed 10 = .ok (.aload_n 0, 1) := by decide +kernel
theorem dX12_changed_11 : decode cX12_changed 11 = .ok (.getfield 339, 3) := by decide +kernel
theorem dX12_changed_14 : decode cX12_changed 14 = .ok (.if_icmp .ge 12, 3) := by decide +kernel
theorem dX12_changed_17 : decode cX12_changed 17 = .ok (.iload_n 2, 1) := by decide +kernel
theorem dX12_changed_18 : decode cX12_changed 18 = .ok (.ifCond .lt 8, 3) := by decide +kernel
theorem dX12_changed_21 : decode cX12_changed 21 = .ok (.iload_n 2, 1) := by decide +kernel
theorem dX12_changed_22 : decode cX12_changed 22 = .ok (.iconst 4, 1) := by decide +kernel
theorem dX12_changed_23 : decode cX12_changed 23 = .ok (.if_icmp .le 7, 3) := by decide +kernel
theorem dX12_changed_26 : decode cX12_changed 26 = .ok (.iconst (-1), 1) := by decide +kernel
theorem dX12_changed_27 : decode cX12_changed 27 = .ok (.goto 13, 3) := by decide +kernel
theorem dX12_changed_30 : decode cX12_changed 30 = .ok (.aload_n 0, 1) := by decide +kernel
theorem dX12_changed_31 : decode cX12_changed 31 = .ok (.getfield 139, 3) := by decide +kernel
theorem dX12_changed_34 : decode cX12_changed 34 = .ok (.iconst 5, 1) := by decide +kernel
theorem dX12_changed_35 : decode cX12_changed 35 = .ok (.iload_n 1, 1) := by decide +kernel
theorem dX12_changed_36 : decode cX12_changed 36 = .ok (.imul, 1) := by decide +kernel
theorem dX12_changed_37 : decode cX12_changed 37 = .ok (.iload_n 2, 1) := by decide +kernel
theorem dX12_changed_38 : decode cX12_changed 38 = .ok (.iadd, 1) := by decide +kernel
theorem dX12_changed_39 : decode cX12_changed 39 = .ok (.iaload, 1) := by decide +kernel
theorem dX12_changed_40 : decode cX12_changed 40 = .ok (.ireturn, 1) := by decide +kernel
theorem dX12_undo_0 : decode cX12_undo 0 = .ok (.aload_n 0, 1) := by decide +kernel
theorem dX12_undo_1 : decode cX12_undo 1 = .ok (.iconst 0, 1) := by decide +kernel
theorem dX12_undo_2 : decode cX12_undo 2 = .ok (.putfield 1, 3) := by decide +kernel
theorem dX12_undo_5 : decode cX12_undo 5 = .ok (.aload_n 0, 1) := by decide +kernel
theorem dX12_undo_6 : decode cX12_undo 6 = .ok (.getfield 188, 3) := by decide +kernel
theorem dX12_undo_9 : decode cX12_undo 9 = .ok (.ifCond .ne 5, 3) := by decide +kernel
theorem dX12_undo_12 : decode cX12_undo 12 = .ok (.iconst (-1), 1) := by decide +kernel
theorem dX12_undo_13 : decode cX12_undo 13 = .ok (.ireturn, 1) := by decide +kernel
theorem dX12_undo_14 : decode cX12_undo 14 = .ok (.aload_n 0, 1) := by decide +kernel
theorem dX12_undo_15 : decode cX12_undo 15 = .ok (.dup, 1) := by decide +kernel
theorem dX12_undo_16 : decode cX12_undo 16 = .ok (.getfield 188, 3) := by decide +kernel
theorem dX12_undo_19 : decode cX12_undo 19 = .ok (.iconst 1, 1) := by decide +kernel
theorem dX12_undo_20 : decode cX12_undo 20 = .ok (.isub, 1) := by decide +kernel
theorem dX12_undo_21 : decode cX12_undo 21 = .ok (.putfield 188, 3) := by decide +kernel
theorem dX12_undo_24 : decode cX12_undo 24 = .ok (.aload_n 0, 1) := by decide +kernel
theorem dX12_undo_25 : decode cX12_undo 25 = .ok (.invokevirtual 342, 3) := by decide +kernel
theorem dX12_undo_28 : decode cX12_undo 28 = .ok (.aload_n 0, 1) := by decide +kernel
theorem dX12_undo_29 : decode cX12_undo 29 = .ok (.sipush 289, 3) := by decide +kernel
theorem dX12_undo_32 : decode cX12_undo 32 = .ok (.aload_n 0, 1) := by decide +kernel
theorem dX12_undo_33 : decode cX12_undo 33 = .ok (.getfield 188, 3) := by decide +kernel
theorem dX12_undo_36 : decode cX12_undo 36 = .ok (.iadd, 1) := by decide +kernel
theorem dX12_undo_37 : decode cX12_undo 37 = .ok (.aload_n 0, 1) := by decide +kernel
theorem dX12_undo_38 : decode cX12_undo 38 = .ok (.getfield 93, 3) := by decide +kernel
theorem dX12_undo_41 : decode cX12_undo 41 = .ok (.aload_n 0, 1) := by decide +kernel
theorem dX12_undo_42 : decode cX12_undo 42 = .ok (.getfield 188, 3) := by decide +kernel
theorem dX12_undo_45 : decode cX12_undo 45 = .ok (.iaload, 1) := by decide +kernel
theorem dX12_undo_46 : decode cX12_undo 46 = .ok (.invokevirtual 191, 3) := by decide +kernel
theorem dX12_undo_49 : decode cX12_undo 49 = .ok (.aload_n 0, 1) := by decide +kernel
theorem dX12_undo_50 : decode cX12_undo 50 = .ok (.invokevirtual 195, 3) := by decide +kernel
theorem dX12_undo_53 : decode cX12_undo 53 = .ok (.aload_n 0, 1) := by decide +kernel
theorem dX12_undo_54 : decode cX12_undo 54 = .ok (.invokevirtual 345, 3) := by decide +kernel
theorem dX12_undo_57 : decode cX12_undo 57 = .ok (.ireturn, 1) := by decide +kernel
theorem dX12_readMany_0 : decode cX12_readMany 0 = .ok (.iconst 0, 1) := by decide +kernel
theorem dX12_readMany_1 : decode cX12_readMany 1 = .ok (.istore_n 2, 1) := by decide +kernel
theorem dX12_readMany_2 : decode cX12_readMany 2 = .ok (.iconst 0, 1) := by decide +kernel
theorem dX12_readMany_3 : decode cX12_readMany 3 = .ok (.istore_n 3, 1) := by decide +kernel
theorem dX12_readMany_4 : decode cX12_readMany 4 = .ok (.iload_n 3, 1) := by decide +kernel
theorem dX12_readMany_5 : decode cX12_readMany 5 = .ok (.sipush 288, 3) := by decide +kernel
theorem dX12_readMany_8 : decode cX12_readMany 8 = .ok (.if_icmp .ge 29, 3) := by decide +kernel
theorem dX12_readMany_11 : decode cX12_readMany 11 = .ok (.iload_n 2, 1) := by decide +kernel
theorem dX12_readMany_12 : decode cX12_readMany 12 = .ok (.aload_n 0, 1) := by decide +kernel
theorem dX12_readMany_13 : decode cX12_readMany 13 = .ok (.getfield 96, 3) := by decide +kernel
theorem dX12_readMany_16 : decode cX12_readMany 16 = .ok (.iload_n 1, 1) := by decide +kernel
theorem dX12_readMany_17 : decode cX12_readMany 17 = .ok (.iload_n 3, 1) := by decide +kernel
theorem dX12_readMany_18 : decode cX12_readMany 18 = .ok (.invokestatic 222, 3) := by decide +kernel
theorem dX12_readMany_21 : decode cX12_readMany 21 = .ok (.ifCond .eq 7, 3) := by decide +kernel
theorem dX12_readMany_24 : decode cX12_readMany 24 = .ok (.iconst 1, 1) := by decide +kernel
theorem dX12_readMany_25 : decode cX12_readMany 25 = .ok (.goto 4, 3) := by decide +kernel
theorem dX12_readMany_28 : decode cX12_readMany 28 = .ok (.iconst 0, 1) := by decide +kernel
theorem dX12_readMany_29 : decode cX12_readMany 29 = .ok (.iadd, 1) := by decide +kernel
theorem dX12_readMany_30 : decode cX12_readMany 30 = .ok (.istore_n 2, 1) := by decide +kernel
theorem dX12_readMany_31 : decode cX12_readMany 31 = .ok (.iinc 3 1, 3) := by decide +kernel
theorem dX12_readMany_34 : decode cX12_readMany 34 = .ok (.goto (-30), 3) := by decide +kernel
theorem dX12_readMany_37 : decode cX12_readMany 37 = .ok (.iload_n 2, 1) := by decide +kernel
theorem dX12_readMany_38 : decode cX12_readMany 38 = .ok (.ireturn, 1) := by decide +kernel
theorem dX12_readers_0 : decode cX12_readers 0 = .ok (.iconst 0, 1) := by decide +kernel
theorem dX12_readers_1 : decode cX12_readers 1 = .ok (.istore_n 2, 1) := by decide +kernel
theorem dX12_readers_2 : decode cX12_readers 2 = .ok (.iconst 0, 1) := by decide +kernel
theorem dX12_readers_3 : decode cX12_readers 3 = .ok (.istore_n 3, 1) := by decide +kernel
theorem dX12_readers_4 : decode cX12_readers 4 = .ok (.iload_n 3, 1) := by decide +kernel
theorem dX12_readers_5 : decode cX12_readers 5 = .ok (.sipush 288, 3) := by decide +kernel
theorem dX12_readers_8 : decode cX12_readers 8 = .ok (.if_icmp .ge 29, 3) := by decide +kernel
theorem dX12_readers_11 : decode cX12_readers 11 = .ok (.iload_n 2, 1) := by decide +kernel
theorem dX12_readers_12 : decode cX12_readers 12 = .ok (.aload_n 0, 1) := by decide +kernel
theorem dX12_readers_13 : decode cX12_readers 13 = .ok (.getfield 96, 3) := by decide +kernel
theorem dX12_readers_16 : decode cX12_readers 16 = .ok (.iload_n 3, 1) := by decide +kernel
theorem dX12_readers_17 : decode cX12_readers 17 = .ok (.iload_n 1, 1) := by decide +kernel
theorem dX12_readers_18 : decode cX12_readers 18 = .ok (.invokestatic 222, 3) := by decide +kernel
theorem dX12_readers_21 : decode cX12_readers 21 = .ok (.ifCond .eq 7, 3) := by decide +kernel
theorem dX12_readers_24 : decode cX12_readers 24 = .ok (.iconst 1, 1) := by decide +kernel
theorem dX12_readers_25 : decode cX12_readers 25 = .ok (.goto 4, 3) := by decide +kernel
theorem dX12_readers_28 : decode cX12_readers 28 = .ok (.iconst 0, 1) := by decide +kernel
theorem dX12_readers_29 : decode cX12_readers 29 = .ok (.iadd, 1) := by decide +kernel
theorem dX12_readers_30 : decode cX12_readers 30 = .ok (.istore_n 2, 1) := by decide +kernel
theorem dX12_readers_31 : decode cX12_readers 31 = .ok (.iinc 3 1, 3) := by decide +kernel
theorem dX12_readers_34 : decode cX12_readers 34 = .ok (.goto (-30), 3) := by decide +kernel
theorem dX12_readers_37 : decode cX12_readers 37 = .ok (.iload_n 2, 1) := by decide +kernel
theorem dX12_readers_38 : decode cX12_readers 38 = .ok (.ireturn, 1) := by decide +kernel
theorem dX12_cell_0 : decode cX12_cell 0 = .ok (.aload_n 0, 1) := by decide +kernel
theorem dX12_cell_1 : decode cX12_cell 1 = .ok (.iload_n 1, 1) := by decide +kernel
theorem dX12_cell_2 : decode cX12_cell 2 = .ok (.invokestatic 198, 3) := by decide +kernel
theorem dX12_cell_5 : decode cX12_cell 5 = .ok (.ifCond .eq 17, 3) := by decide +kernel
theorem dX12_cell_8 : decode cX12_cell 8 = .ok (.iload_n 2, 1) := by decide +kernel
theorem dX12_cell_9 : decode cX12_cell 9 = .ok (.ifCond .lt 13, 3) := by decide +kernel
theorem dX12_cell_12 : decode cX12_cell 12 = .ok (.iload_n 2, 1) := by decide +kernel
theorem dX12_cell_13 : decode cX12_cell 13 = .ok (.bipush 10, 2) := by decide +kernel
theorem dX12_cell_15 : decode cX12_cell 15 = .ok (.if_icmp .gt 7, 3) := by decide +kernel
theorem dX12_cell_18 : decode cX12_cell 18 = .ok (.iconst 0, 1) := by decide +kernel
theorem dX12_cell_19 : decode cX12_cell 19 = .ok (.goto 4, 3) := by decide +kernel
theorem dX12_cell_22 : decode cX12_cell 22 = .ok (.iconst 1, 1) := by decide +kernel
theorem dX12_cell_23 : decode cX12_cell 23 = .ok (.putfield 1, 3) := by decide +kernel
theorem dX12_cell_26 : decode cX12_cell 26 = .ok (.aload_n 0, 1) := by decide +kernel
theorem dX12_cell_27 : decode cX12_cell 27 = .ok (.getfield 1, 3) := by decide +kernel
theorem dX12_cell_30 : decode cX12_cell 30 = .ok (.ifCond .le 5, 3) := by decide +kernel
theorem dX12_cell_33 : decode cX12_cell 33 = .ok (.iconst 0, 1) := by decide +kernel
theorem dX12_cell_34 : decode cX12_cell 34 = .ok (.ireturn, 1) := by decide +kernel
theorem dX12_cell_35 : decode cX12_cell 35 = .ok (.iload_n 2, 1) := by decide +kernel
theorem dX12_cell_36 : decode cX12_cell 36 = .ok (.tableswitch 124 0 9 #[56, 63, 70, 77, 84, 84, 84, 97, 112, 118], 56) := by decide +kernel
theorem dX12_cell_92 : decode cX12_cell 92 = .ok (.aload_n 0, 1) := by decide +kernel
theorem dX12_cell_93 : decode cX12_cell 93 = .ok (.getfield 80, 3) := by decide +kernel
theorem dX12_cell_96 : decode cX12_cell 96 = .ok (.iload_n 1, 1) := by decide +kernel
theorem dX12_cell_97 : decode cX12_cell 97 = .ok (.iaload, 1) := by decide +kernel
theorem dX12_cell_98 : decode cX12_cell 98 = .ok (.ireturn, 1) := by decide +kernel
theorem dX12_cell_99 : decode cX12_cell 99 = .ok (.aload_n 0, 1) := by decide +kernel
theorem dX12_cell_100 : decode cX12_cell 100 = .ok (.getfield 102, 3) := by decide +kernel
theorem dX12_cell_103 : decode cX12_cell 103 = .ok (.iload_n 1, 1) := by decide +kernel
theorem dX12_cell_104 : decode cX12_cell 104 = .ok (.iaload, 1) := by decide +kernel
theorem dX12_cell_105 : decode cX12_cell 105 = .ok (.ireturn, 1) := by decide +kernel
theorem dX12_cell_106 : decode cX12_cell 106 = .ok (.aload_n 0, 1) := by decide +kernel
theorem dX12_cell_107 : decode cX12_cell 107 = .ok (.getfield 105, 3) := by decide +kernel
theorem dX12_cell_110 : decode cX12_cell 110 = .ok (.iload_n 1, 1) := by decide +kernel
theorem dX12_cell_111 : decode cX12_cell 111 = .ok (.iaload, 1) := by decide +kernel
theorem dX12_cell_112 : decode cX12_cell 112 = .ok (.ireturn, 1) := by decide +kernel
theorem dX12_cell_113 : decode cX12_cell 113 = .ok (.aload_n 0, 1) := by decide +kernel
theorem dX12_cell_114 : decode cX12_cell 114 = .ok (.getfield 117, 3) := by decide +kernel
theorem dX12_cell_117 : decode cX12_cell 117 = .ok (.iload_n 1, 1) := by decide +kernel
theorem dX12_cell_118 : decode cX12_cell 118 = .ok (.iaload, 1) := by decide +kernel
theorem dX12_cell_119 : decode cX12_cell 119 = .ok (.ireturn, 1) := by decide +kernel
theorem dX12_cell_120 : decode cX12_cell 120 = .ok (.aload_n 0, 1) := by decide +kernel
theorem dX12_cell_121 : decode cX12_cell 121 = .ok (.getfield 108, 3) := by decide +kernel
theorem dX12_cell_124 : decode cX12_cell 124 = .ok (.iconst 3, 1) := by decide +kernel
theorem dX12_cell_125 : decode cX12_cell 125 = .ok (.iload_n 1, 1) := by decide +kernel
theorem dX12_cell_126 : decode cX12_cell 126 = .ok (.imul, 1) := by decide +kernel
theorem dX12_cell_127 : decode cX12_cell 127 = .ok (.iload_n 2, 1) := by decide +kernel
theorem dX12_cell_128 : decode cX12_cell 128 = .ok (.iadd, 1) := by decide +kernel
theorem dX12_cell_129 : decode cX12_cell 129 = .ok (.iconst 4, 1) := by decide +kernel
theorem dX12_cell_130 : decode cX12_cell 130 = .ok (.isub, 1) := by decide +kernel
theorem dX12_cell_131 : decode cX12_cell 131 = .ok (.iaload, 1) := by decide +kernel
theorem dX12_cell_132 : decode cX12_cell 132 = .ok (.ireturn, 1) := by decide +kernel
theorem dX12_cell_133 : decode cX12_cell 133 = .ok (.aload_n 0, 1) := by decide +kernel
theorem dX12_cell_134 : decode cX12_cell 134 = .ok (.getfield 114, 3) := by decide +kernel
theorem dX12_cell_137 : decode cX12_cell 137 = .ok (.iload_n 1, 1) := by decide +kernel
theorem dX12_cell_138 : decode cX12_cell 138 = .ok (.baload, 1) := by decide +kernel
theorem dX12_cell_139 : decode cX12_cell 139 = .ok (.ifCond .eq 7, 3) := by decide +kernel
theorem dX12_cell_142 : decode cX12_cell 142 = .ok (.iconst 1, 1) := by decide +kernel
theorem dX12_cell_143 : decode cX12_cell 143 = .ok (.goto 4, 3) := by decide +kernel
theorem dX12_cell_146 : decode cX12_cell 146 = .ok (.iconst 0, 1) := by decide +kernel
theorem dX12_cell_147 : decode cX12_cell 147 = .ok (.ireturn, 1) := by decide +kernel
theorem dX12_cell_148 : decode cX12_cell 148 = .ok (.aload_n 0, 1) := by decide +kernel
theorem dX12_cell_149 : decode cX12_cell 149 = .ok (.iload_n 1, 1) := by decide +kernel
theorem dX12_cell_150 : decode cX12_cell 150 = .ok (.invokevirtual 351, 3) := by decide +kernel
theorem dX12_cell_153 : decode cX12_cell 153 = .ok (.ireturn, 1) := by decide +kernel
theorem dX12_cell_154 : decode cX12_cell 154 = .ok (.aload_n 0, 1) := by decide +kernel
theorem dX12_cell_155 : decode cX12_cell 155 = .ok (.iload_n 1, 1) := by decide +kernel
theorem dX12_cell_156 : decode cX12_cell 156 = .ok (.invokevirtual 336, 3) := by decide +kernel
theorem dX12_cell_159 : decode cX12_cell 159 = .ok (.ireturn, 1) := by decide +kernel
theorem dX12_cell_160 : decode cX12_cell 160 = .ok (.aload_n 0, 1) := by decide +kernel
theorem dX12_cell_161 : decode cX12_cell 161 = .ok (.getfield 89, 3) := by decide +kernel
theorem dX12_cell_164 : decode cX12_cell 164 = .ok (.iload_n 1, 1) := by decide +kernel
theorem dX12_cell_165 : decode cX12_cell 165 = .ok (.baload, 1) := by decide +kernel
theorem dX12_cell_166 : decode cX12_cell 166 = .ok (.ifCond .eq 7, 3) := by decide +kernel
theorem dX12_cell_169 : decode cX12_cell 169 = .ok (.iconst 1, 1) := by decide +kernel
theorem dX12_cell_170 : decode cX12_cell 170 = .ok (.goto 4, 3) := by decide +kernel
theorem dX12_cell_173 : decode cX12_cell 173 = .ok (.iconst 0, 1) := by decide +kernel
theorem dX12_cell_174 : decode cX12_cell 174 = .ok (.ireturn, 1) := by decide +kernel
theorem dX12_thrown_0 : decode cX12_thrown 0 = .ok (.aload_n 0, 1) := by decide +kernel
theorem dX12_thrown_1 : decode cX12_thrown 1 = .ok (.getfield 1, 3) := by decide +kernel
theorem dX12_thrown_4 : decode cX12_thrown 4 = .ok (.ireturn, 1) := by decide +kernel
theorem dX12_ways_0 : decode cX12_ways 0 = .ok (.aload_n 0, 1) := by decide +kernel
theorem dX12_ways_1 : decode cX12_ways 1 = .ok (.iconst 0, 1) := by decide +kernel
theorem dX12_ways_2 : decode cX12_ways 2 = .ok (.putfield 1, 3) := by decide +kernel
theorem dX12_ways_5 : decode cX12_ways 5 = .ok (.iload_n 1, 1) := by decide +kernel
theorem dX12_ways_6 : decode cX12_ways 6 = .ok (.invokestatic 198, 3) := by decide +kernel
theorem dX12_ways_9 : decode cX12_ways 9 = .ok (.ifCond .eq 19, 3) := by decide +kernel
theorem dX12_ways_12 : decode cX12_ways 12 = .ok (.iload_n 2, 1) := by decide +kernel
theorem dX12_ways_13 : decode cX12_ways 13 = .ok (.invokestatic 198, 3) := by decide +kernel
theorem dX12_ways_16 : decode cX12_ways 16 = .ok (.ifCond .eq 12, 3) := by decide +kernel
theorem dX12_ways_19 : decode cX12_ways 19 = .ok (.aload_n 0, 1) := by decide +kernel
theorem dX12_ways_20 : decode cX12_ways 20 = .ok (.getfield 114, 3) := by decide +kernel
theorem dX12_ways_23 : decode cX12_ways 23 = .ok (.iload_n 2, 1) := by decide +kernel
theorem dX12_ways_24 : decode cX12_ways 24 = .ok (.baload, 1) := by decide +kernel
theorem dX12_ways_25 : decode cX12_ways 25 = .ok (.ifCond .ne 5, 3) := by decide +kernel
theorem dX12_ways_28 : decode cX12_ways 28 = .ok (.iconst (-1), 1) := by decide +kernel
theorem dX12_ways_29 : decode cX12_ways 29 = .ok (.ireturn, 1) := by decide +kernel
theorem dX12_ways_30 : decode cX12_ways 30 = .ok (.aload_n 0, 1) := by decide +kernel
theorem dX12_ways_31 : decode cX12_ways 31 = .ok (.getfield 121, 3) := by decide +kernel
theorem dX12_ways_34 : decode cX12_ways 34 = .ok (.sipush 288, 3) := by decide +kernel
theorem dX12_ways_37 : decode cX12_ways 37 = .ok (.iload_n 2, 1) := by decide +kernel
theorem dX12_ways_38 : decode cX12_ways 38 = .ok (.imul, 1) := by decide +kernel
theorem dX12_ways_39 : decode cX12_ways 39 = .ok (.iload_n 1, 1) := by decide +kernel
theorem dX12_ways_40 : decode cX12_ways 40 = .ok (.iadd, 1) := by decide +kernel
theorem dX12_ways_41 : decode cX12_ways 41 = .ok (.iaload, 1) := by decide +kernel
theorem dX12_ways_42 : decode cX12_ways 42 = .ok (.istore_n 3, 1) := by decide +kernel
theorem dX12_ways_43 : decode cX12_ways 43 = .ok (.iload_n 3, 1) := by decide +kernel
theorem dX12_ways_44 : decode cX12_ways 44 = .ok (.bipush 9, 2) := by decide +kernel
theorem dX12_ways_46 : decode cX12_ways 46 = .ok (.if_icmp .le 8, 3) := by decide +kernel
theorem dX12_ways_49 : decode cX12_ways 49 = .ok (.bipush 9, 2) := by decide +kernel
theorem dX12_ways_51 : decode cX12_ways 51 = .ok (.goto 4, 3) := by decide +kernel
theorem dX12_ways_54 : decode cX12_ways 54 = .ok (.iload_n 3, 1) := by decide +kernel
theorem dX12_ways_55 : decode cX12_ways 55 = .ok (.ireturn, 1) := by decide +kernel
theorem dX12_count_0 : decode cX12_count 0 = .ok (.aload_n 0, 1) := by decide +kernel
theorem dX12_count_1 : decode cX12_count 1 = .ok (.iconst 0, 1) := by decide +kernel
theorem dX12_count_2 : decode cX12_count 2 = .ok (.putfield 1, 3) := by decide +kernel
theorem dX12_count_5 : decode cX12_count 5 = .ok (.iconst 0, 1) := by decide +kernel
theorem dX12_count_6 : decode cX12_count 6 = .ok (.istore_n 2, 1) := by decide +kernel
theorem dX12_count_7 : decode cX12_count 7 = .ok (.iconst 0, 1) := by decide +kernel
theorem dX12_count_8 : decode cX12_count 8 = .ok (.istore_n 3, 1) := by decide +kernel
theorem dX12_count_9 : decode cX12_count 9 = .ok (.iconst 0, 1) := by decide +kernel
theorem dX12_count_10 : decode cX12_count 10 = .ok (.istore 4, 2) := by decide +kernel
theorem dX12_count_12 : decode cX12_count 12 = .ok (.iconst 0, 1) := by decide +kernel
theorem dX12_count_13 : decode cX12_count 13 = .ok (.istore 5, 2) := by decide +kernel
theorem dX12_count_15 : decode cX12_count 15 = .ok (.iconst 0, 1) := by decide +kernel
theorem dX12_count_16 : decode cX12_count 16 = .ok (.istore 6, 2) := by decide +kernel
theorem dX12_count_18 : decode cX12_count 18 = .ok (.iload 6, 2) := by decide +kernel
theorem dX12_count_20 : decode cX12_count 20 = .ok (.sipush 288, 3) := by decide +kernel
theorem dX12_count_23 : decode cX12_count 23 = .ok (.if_icmp .ge 100, 3) := by decide +kernel
theorem dX12_count_26 : decode cX12_count 26 = .ok (.iload_n 2, 1) := by decide +kernel
theorem dX12_count_27 : decode cX12_count 27 = .ok (.aload_n 0, 1) := by decide +kernel
theorem dX12_count_28 : decode cX12_count 28 = .ok (.getfield 80, 3) := by decide +kernel
theorem dX12_count_31 : decode cX12_count 31 = .ok (.iload 6, 2) := by decide +kernel
theorem dX12_count_33 : decode cX12_count 33 = .ok (.iaload, 1) := by decide +kernel
theorem dX12_count_34 : decode cX12_count 34 = .ok (.iconst 1, 1) := by decide +kernel
theorem dX12_count_35 : decode cX12_count 35 = .ok (.if_icmp .ne 7, 3) := by decide +kernel
theorem dX12_count_38 : decode cX12_count 38 = .ok (.iconst 1, 1) := by decide +kernel
theorem dX12_count_39 : decode cX12_count 39 = .ok (.goto 4, 3) := by decide +kernel
theorem dX12_count_42 : decode cX12_count 42 = .ok (.iconst 0, 1) := by decide +kernel
theorem dX12_count_43 : decode cX12_count 43 = .ok (.iadd, 1) := by decide +kernel
theorem dX12_count_44 : decode cX12_count 44 = .ok (.istore_n 2, 1) := by decide +kernel
theorem dX12_count_45 : decode cX12_count 45 = .ok (.iload_n 3, 1) := by decide +kernel
theorem dX12_count_46 : decode cX12_count 46 = .ok (.aload_n 0, 1) := by decide +kernel
theorem dX12_count_47 : decode cX12_count 47 = .ok (.getfield 80, 3) := by decide +kernel
theorem dX12_count_50 : decode cX12_count 50 = .ok (.iload 6, 2) := by decide +kernel
theorem dX12_count_52 : decode cX12_count 52 = .ok (.iaload, 1) := by decide +kernel
theorem dX12_count_53 : decode cX12_count 53 = .ok (.iconst 2, 1) := by decide +kernel
theorem dX12_count_54 : decode cX12_count 54 = .ok (.if_icmp .ne 7, 3) := by decide +kernel
theorem dX12_count_57 : decode cX12_count 57 = .ok (.iconst 1, 1) := by decide +kernel
theorem dX12_count_58 : decode cX12_count 58 = .ok (.goto 4, 3) := by decide +kernel
theorem dX12_count_61 : decode cX12_count 61 = .ok (.iconst 0, 1) := by decide +kernel
theorem dX12_count_62 : decode cX12_count 62 = .ok (.iadd, 1) := by decide +kernel
theorem dX12_count_63 : decode cX12_count 63 = .ok (.istore_n 3, 1) := by decide +kernel
theorem dX12_count_64 : decode cX12_count 64 = .ok (.iload 4, 2) := by decide +kernel
theorem dX12_count_66 : decode cX12_count 66 = .ok (.aload_n 0, 1) := by decide +kernel
theorem dX12_count_67 : decode cX12_count 67 = .ok (.getfield 80, 3) := by decide +kernel
theorem dX12_count_70 : decode cX12_count 70 = .ok (.iload 6, 2) := by decide +kernel
theorem dX12_count_72 : decode cX12_count 72 = .ok (.iaload, 1) := by decide +kernel
theorem dX12_count_73 : decode cX12_count 73 = .ok (.iconst 2, 1) := by decide +kernel
theorem dX12_count_74 : decode cX12_count 74 = .ok (.if_icmp .ne 19, 3) := by decide +kernel
theorem dX12_count_77 : decode cX12_count 77 = .ok (.aload_n 0, 1) := by decide +kernel
theorem dX12_count_78 : decode cX12_count 78 = .ok (.getfield 117, 3) := by decide +kernel
theorem dX12_count_81 : decode cX12_count 81 = .ok (.iload 6, 2) := by decide +kernel
theorem dX12_count_83 : decode cX12_count 83 = .ok (.iaload, 1) := by decide +kernel
theorem dX12_count_84 : decode cX12_count 84 = .ok (.iload 6, 2) := by decide +kernel
theorem dX12_count_86 : decode cX12_count 86 = .ok (.if_icmp .ne 7, 3) := by decide +kernel
theorem dX12_count_89 : decode cX12_count 89 = .ok (.iconst 1, 1) := by decide +kernel
theorem dX12_count_90 : decode cX12_count 90 = .ok (.goto 4, 3) := by decide +kernel
theorem dX12_count_93 : decode cX12_count 93 = .ok (.iconst 0, 1) := by decide +kernel
theorem dX12_count_94 : decode cX12_count 94 = .ok (.iadd, 1) := by decide +kernel
theorem dX12_count_95 : decode cX12_count 95 = .ok (.istore 4, 2) := by decide +kernel
theorem dX12_count_97 : decode cX12_count 97 = .ok (.iload 5, 2) := by decide +kernel
theorem dX12_count_99 : decode cX12_count 99 = .ok (.aload_n 0, 1) := by decide +kernel
theorem dX12_count_100 : decode cX12_count 100 = .ok (.getfield 105, 3) := by decide +kernel
theorem dX12_count_103 : decode cX12_count 103 = .ok (.iload 6, 2) := by decide +kernel
theorem dX12_count_105 : decode cX12_count 105 = .ok (.iaload, 1) := by decide +kernel
theorem dX12_count_106 : decode cX12_count 106 = .ok (.ifCond .le 7, 3) := by decide +kernel
theorem dX12_count_109 : decode cX12_count 109 = .ok (.iconst 1, 1) := by decide +kernel
theorem dX12_count_110 : decode cX12_count 110 = .ok (.goto 4, 3) := by decide +kernel
theorem dX12_count_113 : decode cX12_count 113 = .ok (.iconst 0, 1) := by decide +kernel
theorem dX12_count_114 : decode cX12_count 114 = .ok (.iadd, 1) := by decide +kernel
theorem dX12_count_115 : decode cX12_count 115 = .ok (.istore 5, 2) := by decide +kernel
theorem dX12_count_117 : decode cX12_count 117 = .ok (.iinc 6 1, 3) := by decide +kernel
theorem dX12_count_120 : decode cX12_count 120 = .ok (.goto (-102), 3) := by decide +kernel
theorem dX12_count_123 : decode cX12_count 123 = .ok (.iload_n 1, 1) := by decide +kernel
theorem dX12_count_124 : decode cX12_count 124 = .ok (.ifCond .ne 7, 3) := by decide +kernel
theorem dX12_count_127 : decode cX12_count 127 = .ok (.iload_n 2, 1) := by decide +kernel
theorem dX12_count_128 : decode cX12_count 128 = .ok (.goto 57, 3) := by decide +kernel
theorem dX12_count_131 : decode cX12_count 131 = .ok (.iload_n 1, 1) := by decide +kernel
theorem dX12_count_132 : decode cX12_count 132 = .ok (.iconst 1, 1) := by decide +kernel
theorem dX12_count_133 : decode cX12_count 133 = .ok (.if_icmp .ne 7, 3) := by decide +kernel
theorem dX12_count_136 : decode cX12_count 136 = .ok (.iload_n 3, 1) := by decide +kernel
theorem dX12_count_137 : decode cX12_count 137 = .ok (.goto 48, 3) := by decide +kernel
theorem dX12_count_140 : decode cX12_count 140 = .ok (.iload_n 1, 1) := by decide +kernel
theorem dX12_count_141 : decode cX12_count 141 = .ok (.iconst 2, 1) := by decide +kernel
theorem dX12_count_142 : decode cX12_count 142 = .ok (.if_icmp .ne 8, 3) := by decide +kernel
theorem dX12_count_145 : decode cX12_count 145 = .ok (.iload 4, 2) := by decide +kernel
theorem dX12_count_147 : decode cX12_count 147 = .ok (.goto 38, 3) := by decide +kernel
theorem dX12_count_150 : decode cX12_count 150 = .ok (.iload_n 1, 1) := by decide +kernel
theorem dX12_count_151 : decode cX12_count 151 = .ok (.iconst 3, 1) := by decide +kernel
theorem dX12_count_152 : decode cX12_count 152 = .ok (.if_icmp .ne 8, 3) := by decide +kernel
theorem dX12_count_155 : decode cX12_count 155 = .ok (.iload 5, 2) := by decide +kernel
theorem dX12_count_157 : decode cX12_count 157 = .ok (.goto 28, 3) := by decide +kernel
theorem dX12_count_160 : decode cX12_count 160 = .ok (.iload_n 1, 1) := by decide +kernel
theorem dX12_count_161 : decode cX12_count 161 = .ok (.iconst 4, 1) := by decide +kernel
theorem dX12_count_162 : decode cX12_count 162 = .ok (.if_icmp .ne 10, 3) := by decide +kernel
theorem dX12_count_165 : decode cX12_count 165 = .ok (.aload_n 0, 1) := by decide +kernel
theorem dX12_count_166 : decode cX12_count 166 = .ok (.getfield 11, 3) := by decide +kernel
theorem dX12_count_169 : decode cX12_count 169 = .ok (.goto 16, 3) := by decide +kernel
theorem dX12_count_172 : decode cX12_count 172 = .ok (.iload_n 1, 1) := by decide +kernel
theorem dX12_count_173 : decode cX12_count 173 = .ok (.iconst 5, 1) := by decide +kernel
theorem dX12_count_174 : decode cX12_count 174 = .ok (.if_icmp .ne 10, 3) := by decide +kernel
theorem dX12_count_177 : decode cX12_count 177 = .ok (.aload_n 0, 1) := by decide +kernel
theorem dX12_count_178 : decode cX12_count 178 = .ok (.getfield 188, 3) := by decide +kernel
theorem dX12_count_181 : decode cX12_count 181 = .ok (.goto 4, 3) := by decide +kernel
theorem dX12_count_184 : decode cX12_count 184 = .ok (.iconst (-1), 1) := by decide +kernel
theorem dX12_count_185 : decode cX12_count 185 = .ok (.ireturn, 1) := by decide +kernel
theorem dJ13_bitCount_95d88_0 : decode cJ13_bitCount_95d88 0 = .ok (.lload_n 0, 1) := by decide +kernel
theorem dJ13_bitCount_95d88_1 : decode cJ13_bitCount_95d88 1 = .ok (.lload_n 0, 1) := by decide +kernel
theorem dJ13_bitCount_95d88_2 : decode cJ13_bitCount_95d88 2 = .ok (.iconst 1, 1) := by decide +kernel
theorem dJ13_bitCount_95d88_3 : decode cJ13_bitCount_95d88 3 = .ok (.lushr, 1) := by decide +kernel
theorem dJ13_bitCount_95d88_4 : decode cJ13_bitCount_95d88 4 = .ok (.ldc2_w 314, 3) := by decide +kernel
theorem dJ13_bitCount_95d88_7 : decode cJ13_bitCount_95d88 7 = .ok (.land, 1) := by decide +kernel
theorem dJ13_bitCount_95d88_8 : decode cJ13_bitCount_95d88 8 = .ok (.lsub, 1) := by decide +kernel
theorem dJ13_bitCount_95d88_9 : decode cJ13_bitCount_95d88 9 = .ok (.lstore_n 0, 1) := by decide +kernel
theorem dJ13_bitCount_95d88_10 : decode cJ13_bitCount_95d88 10 = .ok (.lload_n 0, 1) := by decide +kernel
theorem dJ13_bitCount_95d88_11 : decode cJ13_bitCount_95d88 11 = .ok (.ldc2_w 316, 3) := by decide +kernel
theorem dJ13_bitCount_95d88_14 : decode cJ13_bitCount_95d88 14 = .ok (.land, 1) := by decide +kernel
theorem dJ13_bitCount_95d88_15 : decode cJ13_bitCount_95d88 15 = .ok (.lload_n 0, 1) := by decide +kernel
theorem dJ13_bitCount_95d88_16 : decode cJ13_bitCount_95d88 16 = .ok (.iconst 2, 1) := by decide +kernel
theorem dJ13_bitCount_95d88_17 : decode cJ13_bitCount_95d88 17 = .ok (.lushr, 1) := by decide +kernel
theorem dJ13_bitCount_95d88_18 : decode cJ13_bitCount_95d88 18 = .ok (.ldc2_w 316, 3) := by decide +kernel
theorem dJ13_bitCount_95d88_21 : decode cJ13_bitCount_95d88 21 = .ok (.land, 1) := by decide +kernel
theorem dJ13_bitCount_95d88_22 : decode cJ13_bitCount_95d88 22 = .ok (.ladd, 1) := by decide +kernel
theorem dJ13_bitCount_95d88_23 : decode cJ13_bitCount_95d88 23 = .ok (.lstore_n 0, 1) := by decide +kernel
theorem dJ13_bitCount_95d88_24 : decode cJ13_bitCount_95d88 24 = .ok (.lload_n 0, 1) := by decide +kernel
theorem dJ13_bitCount_95d88_25 : decode cJ13_bitCount_95d88 25 = .ok (.lload_n 0, 1) := by decide +kernel
theorem dJ13_bitCount_95d88_26 : decode cJ13_bitCount_95d88 26 = .ok (.iconst 4, 1) := by decide +kernel
theorem dJ13_bitCount_95d88_27 : decode cJ13_bitCount_95d88 27 = .ok (.lushr, 1) := by decide +kernel
theorem dJ13_bitCount_95d88_28 : decode cJ13_bitCount_95d88 28 = .ok (.ladd, 1) := by decide +kernel
theorem dJ13_bitCount_95d88_29 : decode cJ13_bitCount_95d88 29 = .ok (.ldc2_w 318, 3) := by decide +kernel
theorem dJ13_bitCount_95d88_32 : decode cJ13_bitCount_95d88 32 = .ok (.land, 1) := by decide +kernel
theorem dJ13_bitCount_95d88_33 : decode cJ13_bitCount_95d88 33 = .ok (.lstore_n 0, 1) := by decide +kernel
theorem dJ13_bitCount_95d88_34 : decode cJ13_bitCount_95d88 34 = .ok (.lload_n 0, 1) := by decide +kernel
theorem dJ13_bitCount_95d88_35 : decode cJ13_bitCount_95d88 35 = .ok (.lload_n 0, 1) := by decide +kernel
theorem dJ13_bitCount_95d88_36 : decode cJ13_bitCount_95d88 36 = .ok (.bipush 8, 2) := by decide +kernel
theorem dJ13_bitCount_95d88_38 : decode cJ13_bitCount_95d88 38 = .ok (.lushr, 1) := by decide +kernel
theorem dJ13_bitCount_95d88_39 : decode cJ13_bitCount_95d88 39 = .ok (.ladd, 1) := by decide +kernel
theorem dJ13_bitCount_95d88_40 : decode cJ13_bitCount_95d88 40 = .ok (.lstore_n 0, 1) := by decide +kernel
theorem dJ13_bitCount_95d88_41 : decode cJ13_bitCount_95d88 41 = .ok (.lload_n 0, 1) := by decide +kernel
theorem dJ13_bitCount_95d88_42 : decode cJ13_bitCount_95d88 42 = .ok (.lload_n 0, 1) := by decide +kernel
theorem dJ13_bitCount_95d88_43 : decode cJ13_bitCount_95d88 43 = .ok (.bipush 16, 2) := by decide +kernel
theorem dJ13_bitCount_95d88_45 : decode cJ13_bitCount_95d88 45 = .ok (.lushr, 1) := by decide +kernel
theorem dJ13_bitCount_95d88_46 : decode cJ13_bitCount_95d88 46 = .ok (.ladd, 1) := by decide +kernel
theorem dJ13_bitCount_95d88_47 : decode cJ13_bitCount_95d88 47 = .ok (.lstore_n 0, 1) := by decide +kernel
theorem dJ13_bitCount_95d88_48 : decode cJ13_bitCount_95d88 48 = .ok (.lload_n 0, 1) := by decide +kernel
theorem dJ13_bitCount_95d88_49 : decode cJ13_bitCount_95d88 49 = .ok (.lload_n 0, 1) := by decide +kernel
theorem dJ13_bitCount_95d88_50 : decode cJ13_bitCount_95d88 50 = .ok (.bipush 32, 2) := by decide +kernel
theorem dJ13_bitCount_95d88_52 : decode cJ13_bitCount_95d88 52 = .ok (.lushr, 1) := by decide +kernel
theorem dJ13_bitCount_95d88_53 : decode cJ13_bitCount_95d88 53 = .ok (.ladd, 1) := by decide +kernel
theorem dJ13_bitCount_95d88_54 : decode cJ13_bitCount_95d88 54 = .ok (.lstore_n 0, 1) := by decide +kernel
theorem dJ13_bitCount_95d88_55 : decode cJ13_bitCount_95d88 55 = .ok (.lload_n 0, 1) := by decide +kernel
theorem dJ13_bitCount_95d88_56 : decode cJ13_bitCount_95d88 56 = .ok (.l2i, 1) := by decide +kernel
theorem dJ13_bitCount_95d88_57 : decode cJ13_bitCount_95d88 57 = .ok (.bipush 127, 2) := by decide +kernel
theorem dJ13_bitCount_95d88_59 : decode cJ13_bitCount_95d88 59 = .ok (.iand, 1) := by decide +kernel
theorem dJ13_bitCount_95d88_60 : decode cJ13_bitCount_95d88 60 = .ok (.ireturn, 1) := by decide +kernel
theorem dL_cell_0 : decode cL_cell 0 = .ok (.aload_n 3, 1) := by decide +kernel
theorem dL_cell_1 : decode cL_cell 1 = .ok (.iconst 0, 1) := by decide +kernel
theorem dL_cell_2 : decode cL_cell 2 = .ok (.aload_n 0, 1) := by decide +kernel
theorem dL_cell_3 : decode cL_cell 3 = .ok (.iload_n 1, 1) := by decide +kernel
theorem dL_cell_4 : decode cL_cell 4 = .ok (.iload_n 2, 1) := by decide +kernel
theorem dL_cell_5 : decode cL_cell 5 = .ok (.invokevirtual 7, 3) := by decide +kernel
theorem dL_cell_8 : decode cL_cell 8 = .ok (.i2l, 1) := by decide +kernel
theorem dL_cell_9 : decode cL_cell 9 = .ok (.lastore, 1) := by decide +kernel
theorem dL_cell_10 : decode cL_cell 10 = .ok (.goto 7, 3) := by decide +kernel
theorem dL_cell_13 : decode cL_cell 13 = .ok (.astore 4, 2) := by decide +kernel
theorem dL_cell_15 : decode cL_cell 15 = .ok (.iconst 1, 1) := by decide +kernel
theorem dL_cell_16 : decode cL_cell 16 = .ok (.ireturn, 1) := by decide +kernel
theorem dL_cell_17 : decode cL_cell 17 = .ok (.iconst 0, 1) := by decide +kernel
theorem dL_cell_18 : decode cL_cell 18 = .ok (.ireturn, 1) := by decide +kernel
theorem dL_law_0 : decode cL_law 0 = .ok (.new 8, 3) := by decide +kernel
theorem dL_law_3 : decode cL_law 3 = .ok (.dup, 1) := by decide +kernel
theorem dL_law_4 : decode cL_law 4 = .ok (.invokespecial 15, 3) := by decide +kernel
theorem dL_law_7 : decode cL_law 7 = .ok (.astore_n 1, 1) := by decide +kernel
theorem dL_law_8 : decode cL_law 8 = .ok (.new 16, 3) := by decide +kernel
theorem dL_law_11 : decode cL_law 11 = .ok (.dup, 1) := by decide +kernel
theorem dL_law_12 : decode cL_law 12 = .ok (.invokespecial 18, 3) := by decide +kernel
theorem dL_law_15 : decode cL_law 15 = .ok (.astore_n 2, 1) := by decide +kernel
theorem dL_law_16 : decode cL_law 16 = .ok (.iconst 1, 1) := by decide +kernel
theorem dL_law_17 : decode cL_law 17 = .ok (.newarray .long, 2) := by decide +kernel
theorem dL_law_19 : decode cL_law 19 = .ok (.astore_n 3, 1) := by decide +kernel
theorem dL_law_20 : decode cL_law 20 = .ok (.iconst 0, 1) := by decide +kernel
theorem dL_law_21 : decode cL_law 21 = .ok (.istore 4, 2) := by decide +kernel
theorem dL_law_23 : decode cL_law 23 = .ok (.iload 4, 2) := by decide +kernel
theorem dL_law_25 : decode cL_law 25 = .ok (.aload_n 0, 1) := by decide +kernel
theorem dL_law_26 : decode cL_law 26 = .ok (.arraylength, 1) := by decide +kernel
theorem dL_law_27 : decode cL_law 27 = .ok (.bipush 7, 2) := by decide +kernel
theorem dL_law_29 : decode cL_law 29 = .ok (.isub, 1) := by decide +kernel
theorem dL_law_30 : decode cL_law 30 = .ok (.if_icmp .gt 773, 3) := by decide +kernel
theorem dL_law_33 : decode cL_law 33 = .ok (.aload_n 0, 1) := by decide +kernel
theorem dL_law_34 : decode cL_law 34 = .ok (.iload 4, 2) := by decide +kernel
theorem dL_law_36 : decode cL_law 36 = .ok (.iaload, 1) := by decide +kernel
theorem dL_law_37 : decode cL_law 37 = .ok (.bipush 15, 2) := by decide +kernel
theorem dL_law_39 : decode cL_law 39 = .ok (.iand, 1) := by decide +kernel
theorem dL_law_40 : decode cL_law 40 = .ok (.tableswitch 757 0 15 #[80, 227, 252, 289, 314, 351, 412, 465, 478, 515, 540, 577, 614, 627, 695, 732], 80) := by decide +kernel
theorem dL_law_120 : decode cL_law 120 = .ok (.aload_n 1, 1) := by decide +kernel
theorem dL_law_121 : decode cL_law 121 = .ok (.aload_n 0, 1) := by decide +kernel
theorem dL_law_122 : decode cL_law 122 = .ok (.iload 4, 2) := by decide +kernel
theorem dL_law_124 : decode cL_law 124 = .ok (.iconst 1, 1) := by decide +kernel
theorem dL_law_125 : decode cL_law 125 = .ok (.iadd, 1) := by decide +kernel
theorem dL_law_126 : decode cL_law 126 = .ok (.iaload, 1) := by decide +kernel
theorem dL_law_127 : decode cL_law 127 = .ok (.i2l, 1) := by decide +kernel
theorem dL_law_128 : decode cL_law 128 = .ok (.bipush 32, 2) := by decide +kernel
theorem dL_law_130 : decode cL_law 130 = .ok (.lshl, 1) := by decide +kernel
theorem dL_law_131 : decode cL_law 131 = .ok (.aload_n 0, 1) := by decide +kernel
theorem dL_law_132 : decode cL_law 132 = .ok (.iload 4, 2) := by decide +kernel
theorem dL_law_134 : decode cL_law 134 = .ok (.iconst 2, 1) := by decide +kernel
theorem dL_law_135 : decode cL_law 135 = .ok (.iadd, 1) := by decide +kernel
theorem dL_law_136 : decode cL_law 136 = .ok (.iaload, 1) := by decide +kernel
theorem dL_law_137 : decode cL_law 137 = .ok (.i2l, 1) := by decide +kernel
theorem dL_law_138 : decode cL_law 138 = .ok (.ldc2_w 19, 3) := by decide +kernel
theorem dL_law_141 : decode cL_law 141 = .ok (.land, 1) := by decide +kernel
theorem dL_law_142 : decode cL_law 142 = .ok (.lor, 1) := by decide +kernel
theorem dL_law_143 : decode cL_law 143 = .ok (.aload_n 0, 1) := by decide +kernel
theorem dL_law_144 : decode cL_law 144 = .ok (.iload 4, 2) := by decide +kernel
theorem dL_law_146 : decode cL_law 146 = .ok (.iconst 3, 1) := by decide +kernel
theorem dL_law_147 : decode cL_law 147 = .ok (.iadd, 1) := by decide +kernel
theorem dL_law_148 : decode cL_law 148 = .ok (.iaload, 1) := by decide +kernel
theorem dL_law_149 : decode cL_law 149 = .ok (.i2l, 1) := by decide +kernel
theorem dL_law_150 : decode cL_law 150 = .ok (.bipush 32, 2) := by decide +kernel
theorem dL_law_152 : decode cL_law 152 = .ok (.lshl, 1) := by decide +kernel
theorem dL_law_153 : decode cL_law 153 = .ok (.aload_n 0, 1) := by decide +kernel
theorem dL_law_154 : decode cL_law 154 = .ok (.iload 4, 2) := by decide +kernel
theorem dL_law_156 : decode cL_law 156 = .ok (.iconst 4, 1) := by decide +kernel
theorem dL_law_157 : decode cL_law 157 = .ok (.iadd, 1) := by decide +kernel
theorem dL_law_158 : decode cL_law 158 = .ok (.iaload, 1) := by decide +kernel
theorem dL_law_159 : decode cL_law 159 = .ok (.i2l, 1) := by decide +kernel
theorem dL_law_160 : decode cL_law 160 = .ok (.ldc2_w 19, 3) := by decide +kernel
theorem dL_law_163 : decode cL_law 163 = .ok (.land, 1) := by decide +kernel
theorem dL_law_164 : decode cL_law 164 = .ok (.lor, 1) := by decide +kernel
theorem dL_law_165 : decode cL_law 165 = .ok (.aload_n 0, 1) := by decide +kernel
theorem dL_law_166 : decode cL_law 166 = .ok (.iload 4, 2) := by decide +kernel
theorem dL_law_168 : decode cL_law 168 = .ok (.iconst 5, 1) := by decide +kernel
theorem dL_law_169 : decode cL_law 169 = .ok (.iadd, 1) := by decide +kernel
theorem dL_law_170 : decode cL_law 170 = .ok (.iaload, 1) := by decide +kernel
theorem dL_law_171 : decode cL_law 171 = .ok (.i2l, 1) := by decide +kernel
theorem dL_law_172 : decode cL_law 172 = .ok (.bipush 32, 2) := by decide +kernel
theorem dL_law_174 : decode cL_law 174 = .ok (.lshl, 1) := by decide +kernel
theorem dL_law_175 : decode cL_law 175 = .ok (.aload_n 0, 1) := by decide +kernel
theorem dL_law_176 : decode cL_law 176 = .ok (.iload 4, 2) := by decide +kernel
theorem dL_law_178 : decode cL_law 178 = .ok (.bipush 6, 2) := by decide +kernel
theorem dL_law_180 : decode cL_law 180 = .ok (.iadd, 1) := by decide +kernel
theorem dL_law_181 : decode cL_law 181 = .ok (.iaload, 1) := by decide +kernel
theorem dL_law_182 : decode cL_law 182 = .ok (.i2l, 1) := by decide +kernel
theorem dL_law_183 : decode cL_law 183 = .ok (.ldc2_w 19, 3) := by decide +kernel
theorem dL_law_186 : decode cL_law 186 = .ok (.land, 1) := by decide +kernel
theorem dL_law_187 : decode cL_law 187 = .ok (.lor, 1) := by decide +kernel
theorem dL_law_188 : decode cL_law 188 = .ok (.invokevirtual 21, 3) := by decide +kernel
theorem dL_law_191 : decode cL_law 191 = .ok (.aload_n 2, 1) := by decide +kernel
theorem dL_law_192 : decode cL_law 192 = .ok (.aload_n 0, 1) := by decide +kernel
theorem dL_law_193 : decode cL_law 193 = .ok (.iload 4, 2) := by decide +kernel
theorem dL_law_195 : decode cL_law 195 = .ok (.iconst 1, 1) := by decide +kernel
theorem dL_law_196 : decode cL_law 196 = .ok (.iadd, 1) := by decide +kernel
theorem dL_law_197 : decode cL_law 197 = .ok (.iaload, 1) := by decide +kernel
theorem dL_law_198 : decode cL_law 198 = .ok (.i2l, 1) := by decide +kernel
theorem dL_law_199 : decode cL_law 199 = .ok (.bipush 32, 2) := by decide +kernel
theorem dL_law_201 : decode cL_law 201 = .ok (.lshl, 1) := by decide +kernel
theorem dL_law_202 : decode cL_law 202 = .ok (.aload_n 0, 1) := by decide +kernel
theorem dL_law_203 : decode cL_law 203 = .ok (.iload 4, 2) := by decide +kernel
theorem dL_law_205 : decode cL_law 205 = .ok (.iconst 2, 1) := by decide +kernel
theorem dL_law_206 : decode cL_law 206 = .ok (.iadd, 1) := by decide +kernel
theorem dL_law_207 : decode cL_law 207 = .ok (.iaload, 1) := by decide +kernel
theorem dL_law_208 : decode cL_law 208 = .ok (.i2l, 1) := by decide +kernel
theorem dL_law_209 : decode cL_law 209 = .ok (.ldc2_w 19, 3) := by decide +kernel
theorem dL_law_212 : decode cL_law 212 = .ok (.land, 1) := by decide +kernel
theorem dL_law_213 : decode cL_law 213 = .ok (.lor, 1) := by decide +kernel
theorem dL_law_214 : decode cL_law 214 = .ok (.aload_n 0, 1) := by decide +kernel
theorem dL_law_215 : decode cL_law 215 = .ok (.iload 4, 2) := by decide +kernel
theorem dL_law_217 : decode cL_law 217 = .ok (.iconst 3, 1) := by decide +kernel
theorem dL_law_218 : decode cL_law 218 = .ok (.iadd, 1) := by decide +kernel
theorem dL_law_219 : decode cL_law 219 = .ok (.iaload, 1) := by decide +kernel
theorem dL_law_220 : decode cL_law 220 = .ok (.i2l, 1) := by decide +kernel
theorem dL_law_221 : decode cL_law 221 = .ok (.bipush 32, 2) := by decide +kernel
theorem dL_law_223 : decode cL_law 223 = .ok (.lshl, 1) := by decide +kernel
theorem dL_law_224 : decode cL_law 224 = .ok (.aload_n 0, 1) := by decide +kernel
theorem dL_law_225 : decode cL_law 225 = .ok (.iload 4, 2) := by decide +kernel
theorem dL_law_227 : decode cL_law 227 = .ok (.iconst 4, 1) := by decide +kernel
theorem dL_law_228 : decode cL_law 228 = .ok (.iadd, 1) := by decide +kernel
theorem dL_law_229 : decode cL_law 229 = .ok (.iaload, 1) := by decide +kernel
theorem dL_law_230 : decode cL_law 230 = .ok (.i2l, 1) := by decide +kernel
theorem dL_law_231 : decode cL_law 231 = .ok (.ldc2_w 19, 3) := by decide +kernel
theorem dL_law_234 : decode cL_law 234 = .ok (.land, 1) := by decide +kernel
theorem dL_law_235 : decode cL_law 235 = .ok (.lor, 1) := by decide +kernel
theorem dL_law_236 : decode cL_law 236 = .ok (.aload_n 0, 1) := by decide +kernel
theorem dL_law_237 : decode cL_law 237 = .ok (.iload 4, 2) := by decide +kernel
theorem dL_law_239 : decode cL_law 239 = .ok (.iconst 5, 1) := by decide +kernel
theorem dL_law_240 : decode cL_law 240 = .ok (.iadd, 1) := by decide +kernel
theorem dL_law_241 : decode cL_law 241 = .ok (.iaload, 1) := by decide +kernel
theorem dL_law_242 : decode cL_law 242 = .ok (.i2l, 1) := by decide +kernel
theorem dL_law_243 : decode cL_law 243 = .ok (.bipush 32, 2) := by decide +kernel
theorem dL_law_245 : decode cL_law 245 = .ok (.lshl, 1) := by decide +kernel
theorem dL_law_246 : decode cL_law 246 = .ok (.aload_n 0, 1) := by decide +kernel
theorem dL_law_247 : decode cL_law 247 = .ok (.iload 4, 2) := by decide +kernel
theorem dL_law_249 : decode cL_law 249 = .ok (.bipush 6, 2) := by decide +kernel
theorem dL_law_251 : decode cL_law 251 = .ok (.iadd, 1) := by decide +kernel
theorem dL_law_252 : decode cL_law 252 = .ok (.iaload, 1) := by decide +kernel
theorem dL_law_253 : decode cL_law 253 = .ok (.i2l, 1) := by decide +kernel
theorem dL_law_254 : decode cL_law 254 = .ok (.ldc2_w 19, 3) := by decide +kernel
theorem dL_law_257 : decode cL_law 257 = .ok (.land, 1) := by decide +kernel
theorem dL_law_258 : decode cL_law 258 = .ok (.lor, 1) := by decide +kernel
theorem dL_law_259 : decode cL_law 259 = .ok (.invokevirtual 25, 3) := by decide +kernel
theorem dL_law_262 : decode cL_law 262 = .ok (.if_icmp .eq 535, 3) := by decide +kernel
theorem dL_law_265 : decode cL_law 265 = .ok (.iconst 0, 1) := by decide +kernel
theorem dL_law_266 : decode cL_law 266 = .ok (.ireturn, 1) := by decide +kernel
theorem dL_law_267 : decode cL_law 267 = .ok (.aload_n 1, 1) := by decide +kernel
theorem dL_law_268 : decode cL_law 268 = .ok (.aload_n 0, 1) := by decide +kernel
theorem dL_law_269 : decode cL_law 269 = .ok (.iload 4, 2) := by decide +kernel
theorem dL_law_271 : decode cL_law 271 = .ok (.iconst 1, 1) := by decide +kernel
theorem dL_law_272 : decode cL_law 272 = .ok (.iadd, 1) := by decide +kernel
theorem dL_law_273 : decode cL_law 273 = .ok (.iaload, 1) := by decide +kernel
theorem dL_law_274 : decode cL_law 274 = .ok (.invokevirtual 26, 3) := by decide +kernel
theorem dL_law_277 : decode cL_law 277 = .ok (.aload_n 2, 1) := by decide +kernel
theorem dL_law_278 : decode cL_law 278 = .ok (.aload_n 0, 1) := by decide +kernel
theorem dL_law_279 : decode cL_law 279 = .ok (.iload 4, 2) := by decide +kernel
theorem dL_law_281 : decode cL_law 281 = .ok (.iconst 1, 1) := by decide +kernel
theorem dL_law_282 : decode cL_law 282 = .ok (.iadd, 1) := by decide +kernel
theorem dL_law_283 : decode cL_law 283 = .ok (.iaload, 1) := by decide +kernel
theorem dL_law_284 : decode cL_law 284 = .ok (.invokevirtual 30, 3) := by decide +kernel
theorem dL_law_287 : decode cL_law 287 = .ok (.if_icmp .eq 510, 3) := by decide +kernel
theorem dL_law_290 : decode cL_law 290 = .ok (.iconst 0, 1) := by decide +kernel
theorem dL_law_291 : decode cL_law 291 = .ok (.ireturn, 1) := by decide +kernel
theorem dL_law_292 : decode cL_law 292 = .ok (.aload_n 1, 1) := by decide +kernel
theorem dL_law_293 : decode cL_law 293 = .ok (.aload_n 0, 1) := by decide +kernel
theorem dL_law_294 : decode cL_law 294 = .ok (.iload 4, 2) := by decide +kernel
theorem dL_law_296 : decode cL_law 296 = .ok (.iconst 1, 1) := by decide +kernel
theorem dL_law_297 : decode cL_law 297 = .ok (.iadd, 1) := by decide +kernel
theorem dL_law_298 : decode cL_law 298 = .ok (.iaload, 1) := by decide +kernel
theorem dL_law_299 : decode cL_law 299 = .ok (.aload_n 0, 1) := by decide +kernel
theorem dL_law_300 : decode cL_law 300 = .ok (.iload 4, 2) := by decide +kernel
theorem dL_law_302 : decode cL_law 302 = .ok (.iconst 2, 1) := by decide +kernel
theorem dL_law_303 : decode cL_law 303 = .ok (.iadd, 1) := by decide +kernel
theorem dL_law_304 : decode cL_law 304 = .ok (.iaload, 1) := by decide +kernel
theorem dL_law_305 : decode cL_law 305 = .ok (.invokevirtual 31, 3) := by decide +kernel
theorem dL_law_308 : decode cL_law 308 = .ok (.aload_n 2, 1) := by decide +kernel
theorem dL_law_309 : decode cL_law 309 = .ok (.aload_n 0, 1) := by decide +kernel
theorem dL_law_310 : decode cL_law 310 = .ok (.iload 4, 2) := by decide +kernel
theorem dL_law_312 : decode cL_law 312 = .ok (.iconst 1, 1) := by decide +kernel
theorem dL_law_313 : decode cL_law 313 = .ok (.iadd, 1) := by decide +kernel
theorem dL_law_314 : decode cL_law 314 = .ok (.iaload, 1) := by decide +kernel
theorem dL_law_315 : decode cL_law 315 = .ok (.aload_n 0, 1) := by decide +kernel
theorem dL_law_316 : decode cL_law 316 = .ok (.iload 4, 2) := by decide +kernel
theorem dL_law_318 : decode cL_law 318 = .ok (.iconst 2, 1) := by decide +kernel
theorem dL_law_319 : decode cL_law 319 = .ok (.iadd, 1) := by decide +kernel
theorem dL_law_320 : decode cL_law 320 = .ok (.iaload, 1) := by decide +kernel
theorem dL_law_321 : decode cL_law 321 = .ok (.invokevirtual 35, 3) := by decide +kernel
theorem dL_law_324 : decode cL_law 324 = .ok (.if_icmp .eq 473, 3) := by decide +kernel
theorem dL_law_327 : decode cL_law 327 = .ok (.iconst 0, 1) := by decide +kernel
theorem dL_law_328 : decode cL_law 328 = .ok (.ireturn, 1) := by decide +kernel
theorem dL_law_329 : decode cL_law 329 = .ok (.aload_n 1, 1) := by decide +kernel
theorem dL_law_330 : decode cL_law 330 = .ok (.aload_n 0, 1) := by decide +kernel
theorem dL_law_331 : decode cL_law 331 = .ok (.iload 4, 2) := by decide +kernel
theorem dL_law_333 : decode cL_law 333 = .ok (.iconst 1, 1) := by decide +kernel
theorem dL_law_334 : decode cL_law 334 = .ok (.iadd, 1) := by decide +kernel
theorem dL_law_335 : decode cL_law 335 = .ok (.iaload, 1) := by decide +kernel
theorem dL_law_336 : decode cL_law 336 = .ok (.invokevirtual 36, 3) := by decide +kernel
theorem dL_law_339 : decode cL_law 339 = .ok (.aload_n 2, 1) := by decide +kernel
theorem dL_law_340 : decode cL_law 340 = .ok (.aload_n 0, 1) := by decide +kernel
theorem dL_law_341 : decode cL_law 341 = .ok (.iload 4, 2) := by decide +kernel
theorem dL_law_343 : decode cL_law 343 = .ok (.iconst 1, 1) := by decide +kernel
theorem dL_law_344 : decode cL_law 344 = .ok (.iadd, 1) := by decide +kernel
theorem dL_law_345 : decode cL_law 345 = .ok (.iaload, 1) := by decide +kernel
theorem dL_law_346 : decode cL_law 346 = .ok (.invokevirtual 40, 3) := by decide +kernel
theorem dL_law_349 : decode cL_law 349 = .ok (.if_icmp .eq 448, 3) := by decide +kernel
theorem dL_law_352 : decode cL_law 352 = .ok (.iconst 0, 1) := by decide +kernel
theorem dL_law_353 : decode cL_law 353 = .ok (.ireturn, 1) := by decide +kernel
theorem dL_law_354 : decode cL_law 354 = .ok (.aload_n 1, 1) := by decide +kernel
theorem dL_law_355 : decode cL_law 355 = .ok (.aload_n 0, 1) := by decide +kernel
theorem dL_law_356 : decode cL_law 356 = .ok (.iload 4, 2) := by decide +kernel
theorem dL_law_358 : decode cL_law 358 = .ok (.iconst 1, 1) := by decide +kernel
theorem dL_law_359 : decode cL_law 359 = .ok (.iadd, 1) := by decide +kernel
theorem dL_law_360 : decode cL_law 360 = .ok (.iaload, 1) := by decide +kernel
theorem dL_law_361 : decode cL_law 361 = .ok (.aload_n 0, 1) := by decide +kernel
theorem dL_law_362 : decode cL_law 362 = .ok (.iload 4, 2) := by decide +kernel
theorem dL_law_364 : decode cL_law 364 = .ok (.iconst 2, 1) := by decide +kernel
theorem dL_law_365 : decode cL_law 365 = .ok (.iadd, 1) := by decide +kernel
theorem dL_law_366 : decode cL_law 366 = .ok (.iaload, 1) := by decide +kernel
theorem dL_law_367 : decode cL_law 367 = .ok (.invokevirtual 41, 3) := by decide +kernel
theorem dL_law_370 : decode cL_law 370 = .ok (.aload_n 2, 1) := by decide +kernel
theorem dL_law_371 : decode cL_law 371 = .ok (.aload_n 0, 1) := by decide +kernel
theorem dL_law_372 : decode cL_law 372 = .ok (.iload 4, 2) := by decide +kernel
theorem dL_law_374 : decode cL_law 374 = .ok (.iconst 1, 1) := by decide +kernel
theorem dL_law_375 : decode cL_law 375 = .ok (.iadd, 1) := by decide +kernel
theorem dL_law_376 : decode cL_law 376 = .ok (.iaload, 1) := by decide +kernel
theorem dL_law_377 : decode cL_law 377 = .ok (.aload_n 0, 1) := by decide +kernel
theorem dL_law_378 : decode cL_law 378 = .ok (.iload 4, 2) := by decide +kernel
theorem dL_law_380 : decode cL_law 380 = .ok (.iconst 2, 1) := by decide +kernel
theorem dL_law_381 : decode cL_law 381 = .ok (.iadd, 1) := by decide +kernel
theorem dL_law_382 : decode cL_law 382 = .ok (.iaload, 1) := by decide +kernel
theorem dL_law_383 : decode cL_law 383 = .ok (.invokevirtual 44, 3) := by decide +kernel
theorem dL_law_386 : decode cL_law 386 = .ok (.if_icmp .eq 411, 3) := by decide +kernel
theorem dL_law_389 : decode cL_law 389 = .ok (.iconst 0, 1) := by decide +kernel
theorem dL_law_390 : decode cL_law 390 = .ok (.ireturn, 1) := by decide +kernel
theorem dL_law_391 : decode cL_law 391 = .ok (.aload_n 1, 1) := by decide +kernel
theorem dL_law_392 : decode cL_law 392 = .ok (.aload_n 0, 1) := by decide +kernel
theorem dL_law_393 : decode cL_law 393 = .ok (.iload 4, 2) := by decide +kernel
theorem dL_law_395 : decode cL_law 395 = .ok (.iconst 1, 1) := by decide +kernel
theorem dL_law_396 : decode cL_law 396 = .ok (.iadd, 1) := by decide +kernel
theorem dL_law_397 : decode cL_law 397 = .ok (.iaload, 1) := by decide +kernel
theorem dL_law_398 : decode cL_law 398 = .ok (.aload_n 0, 1) := by decide +kernel
theorem dL_law_399 : decode cL_law 399 = .ok (.iload 4, 2) := by decide +kernel
theorem dL_law_401 : decode cL_law 401 = .ok (.iconst 2, 1) := by decide +kernel
theorem dL_law_402 : decode cL_law 402 = .ok (.iadd, 1) := by decide +kernel
theorem dL_law_403 : decode cL_law 403 = .ok (.iaload, 1) := by decide +kernel
theorem dL_law_404 : decode cL_law 404 = .ok (.aload_n 0, 1) := by decide +kernel
theorem dL_law_405 : decode cL_law 405 = .ok (.iload 4, 2) := by decide +kernel
theorem dL_law_407 : decode cL_law 407 = .ok (.iconst 3, 1) := by decide +kernel
theorem dL_law_408 : decode cL_law 408 = .ok (.iadd, 1) := by decide +kernel
theorem dL_law_409 : decode cL_law 409 = .ok (.iaload, 1) := by decide +kernel
theorem dL_law_410 : decode cL_law 410 = .ok (.aload_n 0, 1) := by decide +kernel
theorem dL_law_411 : decode cL_law 411 = .ok (.iload 4, 2) := by decide +kernel
theorem dL_law_413 : decode cL_law 413 = .ok (.iconst 4, 1) := by decide +kernel
theorem dL_law_414 : decode cL_law 414 = .ok (.iadd, 1) := by decide +kernel
theorem dL_law_415 : decode cL_law 415 = .ok (.iaload, 1) := by decide +kernel
theorem dL_law_416 : decode cL_law 416 = .ok (.invokevirtual 45, 3) := by decide +kernel
theorem dL_law_419 : decode cL_law 419 = .ok (.aload_n 2, 1) := by decide +kernel
theorem dL_law_420 : decode cL_law 420 = .ok (.aload_n 0, 1) := by decide +kernel
theorem dL_law_421 : decode cL_law 421 = .ok (.iload 4, 2) := by decide +kernel
theorem dL_law_423 : decode cL_law 423 = .ok (.iconst 1, 1) := by decide +kernel
theorem dL_law_424 : decode cL_law 424 = .ok (.iadd, 1) := by decide +kernel
theorem dL_law_425 : decode cL_law 425 = .ok (.iaload, 1) := by decide +kernel
theorem dL_law_426 : decode cL_law 426 = .ok (.aload_n 0, 1) := by decide +kernel
theorem dL_law_427 : decode cL_law 427 = .ok (.iload 4, 2) := by decide +kernel
theorem dL_law_429 : decode cL_law 429 = .ok (.iconst 2, 1) := by decide +kernel
theorem dL_law_430 : decode cL_law 430 = .ok (.iadd, 1) := by decide +kernel
theorem dL_law_431 : decode cL_law 431 = .ok (.iaload, 1) := by decide +kernel
theorem dL_law_432 : decode cL_law 432 = .ok (.aload_n 0, 1) := by decide +kernel
theorem dL_law_433 : decode cL_law 433 = .ok (.iload 4, 2) := by decide +kernel
theorem dL_law_435 : decode cL_law 435 = .ok (.iconst 3, 1) := by decide +kernel
theorem dL_law_436 : decode cL_law 436 = .ok (.iadd, 1) := by decide +kernel
theorem dL_law_437 : decode cL_law 437 = .ok (.iaload, 1) := by decide +kernel
theorem dL_law_438 : decode cL_law 438 = .ok (.aload_n 0, 1) := by decide +kernel
theorem dL_law_439 : decode cL_law 439 = .ok (.iload 4, 2) := by decide +kernel
theorem dL_law_441 : decode cL_law 441 = .ok (.iconst 4, 1) := by decide +kernel
theorem dL_law_442 : decode cL_law 442 = .ok (.iadd, 1) := by decide +kernel
theorem dL_law_443 : decode cL_law 443 = .ok (.iaload, 1) := by decide +kernel
theorem dL_law_444 : decode cL_law 444 = .ok (.invokevirtual 49, 3) := by decide +kernel
theorem dL_law_447 : decode cL_law 447 = .ok (.if_icmp .eq 350, 3) := by decide +kernel
theorem dL_law_450 : decode cL_law 450 = .ok (.iconst 0, 1) := by decide +kernel
theorem dL_law_451 : decode cL_law 451 = .ok (.ireturn, 1) := by decide +kernel
theorem dL_law_452 : decode cL_law 452 = .ok (.aload_n 1, 1) := by decide +kernel
theorem dL_law_453 : decode cL_law 453 = .ok (.aload_n 0, 1) := by decide +kernel
theorem dL_law_454 : decode cL_law 454 = .ok (.iload 4, 2) := by decide +kernel
theorem dL_law_456 : decode cL_law 456 = .ok (.iconst 1, 1) := by decide +kernel
theorem dL_law_457 : decode cL_law 457 = .ok (.iadd, 1) := by decide +kernel
theorem dL_law_458 : decode cL_law 458 = .ok (.iaload, 1) := by decide +kernel
theorem dL_law_459 : decode cL_law 459 = .ok (.aload_n 0, 1) := by decide +kernel
theorem dL_law_460 : decode cL_law 460 = .ok (.iload 4, 2) := by decide +kernel
theorem dL_law_462 : decode cL_law 462 = .ok (.iconst 2, 1) := by decide +kernel
theorem dL_law_463 : decode cL_law 463 = .ok (.iadd, 1) := by decide +kernel
theorem dL_law_464 : decode cL_law 464 = .ok (.iaload, 1) := by decide +kernel
theorem dL_law_465 : decode cL_law 465 = .ok (.ifCond .eq 7, 3) := by decide +kernel
theorem dL_law_468 : decode cL_law 468 = .ok (.iconst 1, 1) := by decide +kernel
theorem dL_law_469 : decode cL_law 469 = .ok (.goto 4, 3) := by decide +kernel
theorem dL_law_472 : decode cL_law 472 = .ok (.iconst 0, 1) := by decide +kernel
theorem dL_law_473 : decode cL_law 473 = .ok (.invokevirtual 50, 3) := by decide +kernel
theorem dL_law_476 : decode cL_law 476 = .ok (.aload_n 2, 1) := by decide +kernel
theorem dL_law_477 : decode cL_law 477 = .ok (.aload_n 0, 1) := by decide +kernel
theorem dL_law_478 : decode cL_law 478 = .ok (.iload 4, 2) := by decide +kernel
theorem dL_law_480 : decode cL_law 480 = .ok (.iconst 1, 1) := by decide +kernel
theorem dL_law_481 : decode cL_law 481 = .ok (.iadd, 1) := by decide +kernel
theorem dL_law_482 : decode cL_law 482 = .ok (.iaload, 1) := by decide +kernel
theorem dL_law_483 : decode cL_law 483 = .ok (.aload_n 0, 1) := by decide +kernel
theorem dL_law_484 : decode cL_law 484 = .ok (.iload 4, 2) := by decide +kernel
theorem dL_law_486 : decode cL_law 486 = .ok (.iconst 2, 1) := by decide +kernel
theorem dL_law_487 : decode cL_law 487 = .ok (.iadd, 1) := by decide +kernel
theorem dL_law_488 : decode cL_law 488 = .ok (.iaload, 1) := by decide +kernel
theorem dL_law_489 : decode cL_law 489 = .ok (.ifCond .eq 7, 3) := by decide +kernel
theorem dL_law_492 : decode cL_law 492 = .ok (.iconst 1, 1) := by decide +kernel
theorem dL_law_493 : decode cL_law 493 = .ok (.goto 4, 3) := by decide +kernel
theorem dL_law_496 : decode cL_law 496 = .ok (.iconst 0, 1) := by decide +kernel
theorem dL_law_497 : decode cL_law 497 = .ok (.invokevirtual 54, 3) := by decide +kernel
theorem dL_law_500 : decode cL_law 500 = .ok (.if_icmp .eq 297, 3) := by decide +kernel
theorem dL_law_503 : decode cL_law 503 = .ok (.iconst 0, 1) := by decide +kernel
theorem dL_law_504 : decode cL_law 504 = .ok (.ireturn, 1) := by decide +kernel
theorem dL_law_505 : decode cL_law 505 = .ok (.aload_n 1, 1) := by decide +kernel
theorem dL_law_506 : decode cL_law 506 = .ok (.invokevirtual 55, 3) := by decide +kernel
theorem dL_law_509 : decode cL_law 509 = .ok (.aload_n 2, 1) := by decide +kernel
theorem dL_law_510 : decode cL_law 510 = .ok (.invokevirtual 59, 3) := by decide +kernel
theorem dL_law_513 : decode cL_law 513 = .ok (.if_icmp .eq 284, 3) := by decide +kernel
theorem dL_law_516 : decode cL_law 516 = .ok (.iconst 0, 1) := by decide +kernel
theorem dL_law_517 : decode cL_law 517 = .ok (.ireturn, 1) := by decide +kernel
theorem dL_law_518 : decode cL_law 518 = .ok (.aload_n 1, 1) := by decide +kernel
theorem dL_law_519 : decode cL_law 519 = .ok (.aload_n 0, 1) := by decide +kernel
theorem dL_law_520 : decode cL_law 520 = .ok (.iload 4, 2) := by decide +kernel
theorem dL_law_522 : decode cL_law 522 = .ok (.iconst 1, 1) := by decide +kernel
theorem dL_law_523 : decode cL_law 523 = .ok (.iadd, 1) := by decide +kernel
theorem dL_law_524 : decode cL_law 524 = .ok (.iaload, 1) := by decide +kernel
theorem dL_law_525 : decode cL_law 525 = .ok (.aload_n 0, 1) := by decide +kernel
theorem dL_law_526 : decode cL_law 526 = .ok (.iload 4, 2) := by decide +kernel
theorem dL_law_528 : decode cL_law 528 = .ok (.iconst 2, 1) := by decide +kernel
theorem dL_law_529 : decode cL_law 529 = .ok (.iadd, 1) := by decide +kernel
theorem dL_law_530 : decode cL_law 530 = .ok (.iaload, 1) := by decide +kernel
theorem dL_law_531 : decode cL_law 531 = .ok (.invokevirtual 60, 3) := by decide +kernel
theorem dL_law_534 : decode cL_law 534 = .ok (.aload_n 2, 1) := by decide +kernel
theorem dL_law_535 : decode cL_law 535 = .ok (.aload_n 0, 1) := by decide +kernel
theorem dL_law_536 : decode cL_law 536 = .ok (.iload 4, 2) := by decide +kernel
theorem dL_law_538 : decode cL_law 538 = .ok (.iconst 1, 1) := by decide +kernel
theorem dL_law_539 : decode cL_law 539 = .ok (.iadd, 1) := by decide +kernel
theorem dL_law_540 : decode cL_law 540 = .ok (.iaload, 1) := by decide +kernel
theorem dL_law_541 : decode cL_law 541 = .ok (.aload_n 0, 1) := by decide +kernel
theorem dL_law_542 : decode cL_law 542 = .ok (.iload 4, 2) := by decide +kernel
theorem dL_law_544 : decode cL_law 544 = .ok (.iconst 2, 1) := by decide +kernel
theorem dL_law_545 : decode cL_law 545 = .ok (.iadd, 1) := by decide +kernel
theorem dL_law_546 : decode cL_law 546 = .ok (.iaload, 1) := by decide +kernel
theorem dL_law_547 : decode cL_law 547 = .ok (.invokevirtual 63, 3) := by decide +kernel
theorem dL_law_550 : decode cL_law 550 = .ok (.if_icmp .eq 247, 3) := by decide +kernel
theorem dL_law_553 : decode cL_law 553 = .ok (.iconst 0, 1) := by decide +kernel
theorem dL_law_554 : decode cL_law 554 = .ok (.ireturn, 1) := by decide +kernel
theorem dL_law_555 : decode cL_law 555 = .ok (.aload_n 1, 1) := by decide +kernel
theorem dL_law_556 : decode cL_law 556 = .ok (.aload_n 0, 1) := by decide +kernel
theorem dL_law_557 : decode cL_law 557 = .ok (.iload 4, 2) := by decide +kernel
theorem dL_law_559 : decode cL_law 559 = .ok (.iconst 1, 1) := by decide +kernel
theorem dL_law_560 : decode cL_law 560 = .ok (.iadd, 1) := by decide +kernel
theorem dL_law_561 : decode cL_law 561 = .ok (.iaload, 1) := by decide +kernel
theorem dL_law_562 : decode cL_law 562 = .ok (.invokevirtual 64, 3) := by decide +kernel
theorem dL_law_565 : decode cL_law 565 = .ok (.aload_n 2, 1) := by decide +kernel
theorem dL_law_566 : decode cL_law 566 = .ok (.aload_n 0, 1) := by decide +kernel
theorem dL_law_567 : decode cL_law 567 = .ok (.iload 4, 2) := by decide +kernel
theorem dL_law_569 : decode cL_law 569 = .ok (.iconst 1, 1) := by decide +kernel
theorem dL_law_570 : decode cL_law 570 = .ok (.iadd, 1) := by decide +kernel
theorem dL_law_571 : decode cL_law 571 = .ok (.iaload, 1) := by decide +kernel
theorem dL_law_572 : decode cL_law 572 = .ok (.invokevirtual 67, 3) := by decide +kernel
theorem dL_law_575 : decode cL_law 575 = .ok (.if_icmp .eq 222, 3) := by decide +kernel
theorem dL_law_578 : decode cL_law 578 = .ok (.iconst 0, 1) := by decide +kernel
theorem dL_law_579 : decode cL_law 579 = .ok (.ireturn, 1) := by decide +kernel
theorem dL_law_580 : decode cL_law 580 = .ok (.aload_n 1, 1) := by decide +kernel
theorem dL_law_581 : decode cL_law 581 = .ok (.aload_n 0, 1) := by decide +kernel
theorem dL_law_582 : decode cL_law 582 = .ok (.iload 4, 2) := by decide +kernel
theorem dL_law_584 : decode cL_law 584 = .ok (.iconst 1, 1) := by decide +kernel
theorem dL_law_585 : decode cL_law 585 = .ok (.iadd, 1) := by decide +kernel
theorem dL_law_586 : decode cL_law 586 = .ok (.iaload, 1) := by decide +kernel
theorem dL_law_587 : decode cL_law 587 = .ok (.aload_n 0, 1) := by decide +kernel
theorem dL_law_588 : decode cL_law 588 = .ok (.iload 4, 2) := by decide +kernel
theorem dL_law_590 : decode cL_law 590 = .ok (.iconst 2, 1) := by decide +kernel
theorem dL_law_591 : decode cL_law 591 = .ok (.iadd, 1) := by decide +kernel
theorem dL_law_592 : decode cL_law 592 = .ok (.iaload, 1) := by decide +kernel
theorem dL_law_593 : decode cL_law 593 = .ok (.invokevirtual 68, 3) := by decide +kernel
theorem dL_law_596 : decode cL_law 596 = .ok (.aload_n 2, 1) := by decide +kernel
theorem dL_law_597 : decode cL_law 597 = .ok (.aload_n 0, 1) := by decide +kernel
theorem dL_law_598 : decode cL_law 598 = .ok (.iload 4, 2) := by decide +kernel
theorem dL_law_600 : decode cL_law 600 = .ok (.iconst 1, 1) := by decide +kernel
theorem dL_law_601 : decode cL_law 601 = .ok (.iadd, 1) := by decide +kernel
theorem dL_law_602 : decode cL_law 602 = .ok (.iaload, 1) := by decide +kernel
theorem dL_law_603 : decode cL_law 603 = .ok (.aload_n 0, 1) := by decide +kernel
theorem dL_law_604 : decode cL_law 604 = .ok (.iload 4, 2) := by decide +kernel
theorem dL_law_606 : decode cL_law 606 = .ok (.iconst 2, 1) := by decide +kernel
theorem dL_law_607 : decode cL_law 607 = .ok (.iadd, 1) := by decide +kernel
theorem dL_law_608 : decode cL_law 608 = .ok (.iaload, 1) := by decide +kernel
theorem dL_law_609 : decode cL_law 609 = .ok (.invokevirtual 71, 3) := by decide +kernel
theorem dL_law_612 : decode cL_law 612 = .ok (.if_icmp .eq 185, 3) := by decide +kernel
theorem dL_law_615 : decode cL_law 615 = .ok (.iconst 0, 1) := by decide +kernel
theorem dL_law_616 : decode cL_law 616 = .ok (.ireturn, 1) := by decide +kernel
theorem dL_law_617 : decode cL_law 617 = .ok (.aload_n 1, 1) := by decide +kernel
theorem dL_law_618 : decode cL_law 618 = .ok (.aload_n 0, 1) := by decide +kernel
theorem dL_law_619 : decode cL_law 619 = .ok (.iload 4, 2) := by decide +kernel
theorem dL_law_621 : decode cL_law 621 = .ok (.iconst 1, 1) := by decide +kernel
theorem dL_law_622 : decode cL_law 622 = .ok (.iadd, 1) := by decide +kernel
theorem dL_law_623 : decode cL_law 623 = .ok (.iaload, 1) := by decide +kernel
theorem dL_law_624 : decode cL_law 624 = .ok (.aload_n 0, 1) := by decide +kernel
theorem dL_law_625 : decode cL_law 625 = .ok (.iload 4, 2) := by decide +kernel
theorem dL_law_627 : decode cL_law 627 = .ok (.iconst 2, 1) := by decide +kernel
theorem dL_law_628 : decode cL_law 628 = .ok (.iadd, 1) := by decide +kernel
theorem dL_law_629 : decode cL_law 629 = .ok (.iaload, 1) := by decide +kernel
theorem dL_law_630 : decode cL_law 630 = .ok (.invokevirtual 72, 3) := by decide +kernel
theorem dL_law_633 : decode cL_law 633 = .ok (.aload_n 2, 1) := by decide +kernel
theorem dL_law_634 : decode cL_law 634 = .ok (.aload_n 0, 1) := by decide +kernel
theorem dL_law_635 : decode cL_law 635 = .ok (.iload 4, 2) := by decide +kernel
theorem dL_law_637 : decode cL_law 637 = .ok (.iconst 1, 1) := by decide +kernel
theorem dL_law_638 : decode cL_law 638 = .ok (.iadd, 1) := by decide +kernel
theorem dL_law_639 : decode cL_law 639 = .ok (.iaload, 1) := by decide +kernel
theorem dL_law_640 : decode cL_law 640 = .ok (.aload_n 0, 1) := by decide +kernel
theorem dL_law_641 : decode cL_law 641 = .ok (.iload 4, 2) := by decide +kernel
theorem dL_law_643 : decode cL_law 643 = .ok (.iconst 2, 1) := by decide +kernel
theorem dL_law_644 : decode cL_law 644 = .ok (.iadd, 1) := by decide +kernel
theorem dL_law_645 : decode cL_law 645 = .ok (.iaload, 1) := by decide +kernel
theorem dL_law_646 : decode cL_law 646 = .ok (.invokevirtual 75, 3) := by decide +kernel
theorem dL_law_649 : decode cL_law 649 = .ok (.if_icmp .eq 148, 3) := by decide +kernel
theorem dL_law_652 : decode cL_law 652 = .ok (.iconst 0, 1) := by decide +kernel
theorem dL_law_653 : decode cL_law 653 = .ok (.ireturn, 1) := by decide +kernel
theorem dL_law_654 : decode cL_law 654 = .ok (.aload_n 1, 1) := by decide +kernel
theorem dL_law_655 : decode cL_law 655 = .ok (.invokevirtual 76, 3) := by decide +kernel
theorem dL_law_658 : decode cL_law 658 = .ok (.aload_n 2, 1) := by decide +kernel
theorem dL_law_659 : decode cL_law 659 = .ok (.invokevirtual 79, 3) := by decide +kernel
theorem dL_law_662 : decode cL_law 662 = .ok (.if_icmp .eq 135, 3) := by decide +kernel
theorem dL_law_665 : decode cL_law 665 = .ok (.iconst 0, 1) := by decide +kernel
theorem dL_law_666 : decode cL_law 666 = .ok (.ireturn, 1) := by decide +kernel
theorem dL_law_667 : decode cL_law 667 = .ok (.aload_n 1, 1) := by decide +kernel
theorem dL_law_668 : decode cL_law 668 = .ok (.aload_n 0, 1) := by decide +kernel
theorem dL_law_669 : decode cL_law 669 = .ok (.iload 4, 2) := by decide +kernel
theorem dL_law_671 : decode cL_law 671 = .ok (.iconst 1, 1) := by decide +kernel
theorem dL_law_672 : decode cL_law 672 = .ok (.iadd, 1) := by decide +kernel
theorem dL_law_673 : decode cL_law 673 = .ok (.iaload, 1) := by decide +kernel
theorem dL_law_674 : decode cL_law 674 = .ok (.aload_n 0, 1) := by decide +kernel
theorem dL_law_675 : decode cL_law 675 = .ok (.iload 4, 2) := by decide +kernel
theorem dL_law_677 : decode cL_law 677 = .ok (.iconst 2, 1) := by decide +kernel
theorem dL_law_678 : decode cL_law 678 = .ok (.iadd, 1) := by decide +kernel
theorem dL_law_679 : decode cL_law 679 = .ok (.iaload, 1) := by decide +kernel
theorem dL_law_680 : decode cL_law 680 = .ok (.aload_n 3, 1) := by decide +kernel
theorem dL_law_681 : decode cL_law 681 = .ok (.invokestatic 80, 3) := by decide +kernel
theorem dL_law_684 : decode cL_law 684 = .ok (.istore 5, 2) := by decide +kernel
theorem dL_law_686 : decode cL_law 686 = .ok (.aload_n 2, 1) := by decide +kernel
theorem dL_law_687 : decode cL_law 687 = .ok (.aload_n 0, 1) := by decide +kernel
theorem dL_law_688 : decode cL_law 688 = .ok (.iload 4, 2) := by decide +kernel
theorem dL_law_690 : decode cL_law 690 = .ok (.iconst 1, 1) := by decide +kernel
theorem dL_law_691 : decode cL_law 691 = .ok (.iadd, 1) := by decide +kernel
theorem dL_law_692 : decode cL_law 692 = .ok (.iaload, 1) := by decide +kernel
theorem dL_law_693 : decode cL_law 693 = .ok (.aload_n 0, 1) := by decide +kernel
theorem dL_law_694 : decode cL_law 694 = .ok (.iload 4, 2) := by decide +kernel
theorem dL_law_696 : decode cL_law 696 = .ok (.iconst 2, 1) := by decide +kernel
theorem dL_law_697 : decode cL_law 697 = .ok (.iadd, 1) := by decide +kernel
theorem dL_law_698 : decode cL_law 698 = .ok (.iaload, 1) := by decide +kernel
theorem dL_law_699 : decode cL_law 699 = .ok (.invokevirtual 85, 3) := by decide +kernel
theorem dL_law_702 : decode cL_law 702 = .ok (.istore 6, 2) := by decide +kernel
theorem dL_law_704 : decode cL_law 704 = .ok (.aload_n 2, 1) := by decide +kernel
theorem dL_law_705 : decode cL_law 705 = .ok (.invokevirtual 86, 3) := by decide +kernel
theorem dL_law_708 : decode cL_law 708 = .ok (.iload 5, 2) := by decide +kernel
theorem dL_law_710 : decode cL_law 710 = .ok (.if_icmp .eq 5, 3) := by decide +kernel
theorem dL_law_713 : decode cL_law 713 = .ok (.iconst 0, 1) := by decide +kernel
theorem dL_law_714 : decode cL_law 714 = .ok (.ireturn, 1) := by decide +kernel
theorem dL_law_715 : decode cL_law 715 = .ok (.iload 5, 2) := by decide +kernel
theorem dL_law_717 : decode cL_law 717 = .ok (.ifCond .ne 15, 3) := by decide +kernel
theorem dL_law_720 : decode cL_law 720 = .ok (.aload_n 3, 1) := by decide +kernel
theorem dL_law_721 : decode cL_law 721 = .ok (.iconst 0, 1) := by decide +kernel
theorem dL_law_722 : decode cL_law 722 = .ok (.laload, 1) := by decide +kernel
theorem dL_law_723 : decode cL_law 723 = .ok (.iload 6, 2) := by decide +kernel
theorem dL_law_725 : decode cL_law 725 = .ok (.i2l, 1) := by decide +kernel
theorem dL_law_726 : decode cL_law 726 = .ok (.lcmp, 1) := by decide +kernel
theorem dL_law_727 : decode cL_law 727 = .ok (.ifCond .eq 5, 3) := by decide +kernel
theorem dL_law_730 : decode cL_law 730 = .ok (.iconst 0, 1) := by decide +kernel
theorem dL_law_731 : decode cL_law 731 = .ok (.ireturn, 1) := by decide +kernel
theorem dL_law_732 : decode cL_law 732 = .ok (.goto 65, 3) := by decide +kernel
theorem dL_law_735 : decode cL_law 735 = .ok (.aload_n 1, 1) := by decide +kernel
theorem dL_law_736 : decode cL_law 736 = .ok (.aload_n 0, 1) := by decide +kernel
theorem dL_law_737 : decode cL_law 737 = .ok (.iload 4, 2) := by decide +kernel
theorem dL_law_739 : decode cL_law 739 = .ok (.iconst 1, 1) := by decide +kernel
theorem dL_law_740 : decode cL_law 740 = .ok (.iadd, 1) := by decide +kernel
theorem dL_law_741 : decode cL_law 741 = .ok (.iaload, 1) := by decide +kernel
theorem dL_law_742 : decode cL_law 742 = .ok (.aload_n 0, 1) := by decide +kernel
theorem dL_law_743 : decode cL_law 743 = .ok (.iload 4, 2) := by decide +kernel
theorem dL_law_745 : decode cL_law 745 = .ok (.iconst 2, 1) := by decide +kernel
theorem dL_law_746 : decode cL_law 746 = .ok (.iadd, 1) := by decide +kernel
theorem dL_law_747 : decode cL_law 747 = .ok (.iaload, 1) := by decide +kernel
theorem dL_law_748 : decode cL_law 748 = .ok (.invokevirtual 89, 3) := by decide +kernel
theorem dL_law_751 : decode cL_law 751 = .ok (.aload_n 2, 1) := by decide +kernel
theorem dL_law_752 : decode cL_law 752 = .ok (.aload_n 0, 1) := by decide +kernel
theorem dL_law_753 : decode cL_law 753 = .ok (.iload 4, 2) := by decide +kernel
theorem dL_law_755 : decode cL_law 755 = .ok (.iconst 1, 1) := by decide +kernel
theorem dL_law_756 : decode cL_law 756 = .ok (.iadd, 1) := by decide +kernel
theorem dL_law_757 : decode cL_law 757 = .ok (.iaload, 1) := by decide +kernel
theorem dL_law_758 : decode cL_law 758 = .ok (.aload_n 0, 1) := by decide +kernel
theorem dL_law_759 : decode cL_law 759 = .ok (.iload 4, 2) := by decide +kernel
theorem dL_law_761 : decode cL_law 761 = .ok (.iconst 2, 1) := by decide +kernel
theorem dL_law_762 : decode cL_law 762 = .ok (.iadd, 1) := by decide +kernel
theorem dL_law_763 : decode cL_law 763 = .ok (.iaload, 1) := by decide +kernel
theorem dL_law_764 : decode cL_law 764 = .ok (.invokevirtual 92, 3) := by decide +kernel
theorem dL_law_767 : decode cL_law 767 = .ok (.if_icmp .eq 30, 3) := by decide +kernel
theorem dL_law_770 : decode cL_law 770 = .ok (.iconst 0, 1) := by decide +kernel
theorem dL_law_771 : decode cL_law 771 = .ok (.ireturn, 1) := by decide +kernel
theorem dL_law_772 : decode cL_law 772 = .ok (.aload_n 1, 1) := by decide +kernel
theorem dL_law_773 : decode cL_law 773 = .ok (.aload_n 0, 1) := by decide +kernel
theorem dL_law_774 : decode cL_law 774 = .ok (.iload 4, 2) := by decide +kernel
theorem dL_law_776 : decode cL_law 776 = .ok (.iconst 1, 1) := by decide +kernel
theorem dL_law_777 : decode cL_law 777 = .ok (.iadd, 1) := by decide +kernel
theorem dL_law_778 : decode cL_law 778 = .ok (.iaload, 1) := by decide +kernel
theorem dL_law_779 : decode cL_law 779 = .ok (.invokevirtual 93, 3) := by decide +kernel
theorem dL_law_782 : decode cL_law 782 = .ok (.aload_n 2, 1) := by decide +kernel
theorem dL_law_783 : decode cL_law 783 = .ok (.aload_n 0, 1) := by decide +kernel
theorem dL_law_784 : decode cL_law 784 = .ok (.iload 4, 2) := by decide +kernel
theorem dL_law_786 : decode cL_law 786 = .ok (.iconst 1, 1) := by decide +kernel
theorem dL_law_787 : decode cL_law 787 = .ok (.iadd, 1) := by decide +kernel
theorem dL_law_788 : decode cL_law 788 = .ok (.iaload, 1) := by decide +kernel
theorem dL_law_789 : decode cL_law 789 = .ok (.invokevirtual 96, 3) := by decide +kernel
theorem dL_law_792 : decode cL_law 792 = .ok (.if_icmp .eq 5, 3) := by decide +kernel
theorem dL_law_795 : decode cL_law 795 = .ok (.iconst 0, 1) := by decide +kernel
theorem dL_law_796 : decode cL_law 796 = .ok (.ireturn, 1) := by decide +kernel
theorem dL_law_797 : decode cL_law 797 = .ok (.iinc 4 7, 3) := by decide +kernel
theorem dL_law_800 : decode cL_law 800 = .ok (.goto (-777), 3) := by decide +kernel
theorem dL_law_803 : decode cL_law 803 = .ok (.iconst 1, 1) := by decide +kernel
theorem dL_law_804 : decode cL_law 804 = .ok (.ireturn, 1) := by decide +kernel
