theorem dX12_init_113 : decode cX12_init 113 = .ok (.aload_n 0, 1) := by decide +kernel
theorem dX12_init_114 : decode cX12_init 114 = .ok (.bipush 20, 2) := by decide +kernel
theorem dX12_init_116 : decode cX12_init 116 = .ok (.newarray .int, 2) := by decide +kernel
theorem dX12_init_118 : decode cX12_init 118 = .ok (.putfield 93, 3) := by decide +kernel
theorem dX12_init_121 : decode cX12_init 121 = .ok (.aload_n 0, 1) := by decide +kernel
theorem dX12_init_122 : decode cX12_init 122 = .ok (.sipush 1440, 3) := by decide +kernel
theorem dX12_init_125 : decode cX12_init 125 = .ok (.newarray .long, 2) := by decide +kernel
theorem dX12_init_127 : decode cX12_init 127 = .ok (.putfield 96, 3) := by decide +kernel
theorem dX12_init_130 : decode cX12_init 130 = .ok (.aload_n 0, 1) := by decide +kernel
theorem dX12_init_131 : decode cX12_init 131 = .ok (.sipush 1440, 3) := by decide +kernel
theorem dX12_init_134 : decode cX12_init 134 = .ok (.newarray .long, 2) := by decide +kernel
theorem dX12_init_136 : decode cX12_init 136 = .ok (.putfield 99, 3) := by decide +kernel
theorem dX12_init_139 : decode cX12_init 139 = .ok (.aload_n 0, 1) := by decide +kernel
theorem dX12_init_140 : decode cX12_init 140 = .ok (.sipush 288, 3) := by decide +kernel
theorem dX12_init_143 : decode cX12_init 143 = .ok (.newarray .int, 2) := by decide +kernel
theorem dX12_init_145 : decode cX12_init 145 = .ok (.putfield 102, 3) := by decide +kernel
theorem dX12_init_148 : decode cX12_init 148 = .ok (.aload_n 0, 1) := by decide +kernel
theorem dX12_init_149 : decode cX12_init 149 = .ok (.sipush 288, 3) := by decide +kernel
theorem dX12_init_152 : decode cX12_init 152 = .ok (.newarray .int, 2) := by decide +kernel
theorem dX12_init_154 : decode cX12_init 154 = .ok (.putfield 105, 3) := by decide +kernel
theorem dX12_init_157 : decode cX12_init 157 = .ok (.aload_n 0, 1) := by decide +kernel
theorem dX12_init_158 : decode cX12_init 158 = .ok (.sipush 864, 3) := by decide +kernel
theorem dX12_init_161 : decode cX12_init 161 = .ok (.newarray .int, 2) := by decide +kernel
theorem dX12_init_163 : decode cX12_init 163 = .ok (.putfield 108, 3) := by decide +kernel
theorem dX12_init_166 : decode cX12_init 166 = .ok (.aload_n 0, 1) := by decide +kernel
theorem dX12_init_167 : decode cX12_init 167 = .ok (.sipush 288, 3) := by decide +kernel
theorem dX12_init_170 : decode cX12_init 170 = .ok (.newarray .boolean, 2) := by decide +kernel
theorem dX12_init_172 : decode cX12_init 172 = .ok (.putfield 111, 3) := by decide +kernel
theorem dX12_init_175 : decode cX12_init 175 = .ok (.aload_n 0, 1) := by decide +kernel
theorem dX12_init_176 : decode cX12_init 176 = .ok (.sipush 288, 3) := by decide +kernel
theorem dX12_init_179 : decode cX12_init 179 = .ok (.newarray .boolean, 2) := by decide +kernel
theorem dX12_init_181 : decode cX12_init 181 = .ok (.putfield 114, 3) := by decide +kernel
theorem dX12_init_184 : decode cX12_init 184 = .ok (.aload_n 0, 1) := by decide +kernel
theorem dX12_init_185 : decode cX12_init 185 = .ok (.sipush 288, 3) := by decide +kernel
theorem dX12_init_188 : decode cX12_init 188 = .ok (.newarray .int, 2) := by decide +kernel
theorem dX12_init_190 : decode cX12_init 190 = .ok (.putfield 117, 3) := by decide +kernel
theorem dX12_init_193 : decode cX12_init 193 = .ok (.aload_n 0, 1) := by decide +kernel
theorem dX12_init_194 : decode cX12_init 194 = .ok (.ldc 120, 2) := by decide +kernel
theorem dX12_init_196 : decode cX12_init 196 = .ok (.newarray .int, 2) := by decide +kernel
theorem dX12_init_198 : decode cX12_init 198 = .ok (.putfield 121, 3) := by decide +kernel
theorem dX12_init_201 : decode cX12_init 201 = .ok (.aload_n 0, 1) := by decide +kernel
theorem dX12_init_202 : decode cX12_init 202 = .ok (.sipush 288, 3) := by decide +kernel
theorem dX12_init_205 : decode cX12_init 205 = .ok (.newarray .boolean, 2) := by decide +kernel
theorem dX12_init_207 : decode cX12_init 207 = .ok (.putfield 124, 3) := by decide +kernel
theorem dX12_init_210 : decode cX12_init 210 = .ok (.aload_n 0, 1) := by decide +kernel
theorem dX12_init_211 : decode cX12_init 211 = .ok (.bipush 90, 2) := by decide +kernel
theorem dX12_init_213 : decode cX12_init 213 = .ok (.newarray .int, 2) := by decide +kernel
theorem dX12_init_215 : decode cX12_init 215 = .ok (.putfield 127, 3) := by decide +kernel
theorem dX12_init_218 : decode cX12_init 218 = .ok (.aload_n 0, 1) := by decide +kernel
theorem dX12_init_219 : decode cX12_init 219 = .ok (.sipush 900, 3) := by decide +kernel
theorem dX12_init_222 : decode cX12_init 222 = .ok (.newarray .int, 2) := by decide +kernel
theorem dX12_init_224 : decode cX12_init 224 = .ok (.putfield 130, 3) := by decide +kernel
theorem dX12_init_227 : decode cX12_init 227 = .ok (.aload_n 0, 1) := by decide +kernel
theorem dX12_init_228 : decode cX12_init 228 = .ok (.sipush 288, 3) := by decide +kernel
theorem dX12_init_231 : decode cX12_init 231 = .ok (.newarray .int, 2) := by decide +kernel
theorem dX12_init_233 : decode cX12_init 233 = .ok (.putfield 133, 3) := by decide +kernel
theorem dX12_init_236 : decode cX12_init 236 = .ok (.aload_n 0, 1) := by decide +kernel
theorem dX12_init_237 : decode cX12_init 237 = .ok (.sipush 288, 3) := by decide +kernel
theorem dX12_init_240 : decode cX12_init 240 = .ok (.newarray .int, 2) := by decide +kernel
theorem dX12_init_242 : decode cX12_init 242 = .ok (.putfield 136, 3) := by decide +kernel
theorem dX12_init_245 : decode cX12_init 245 = .ok (.aload_n 0, 1) := by decide +kernel
theorem dX12_init_246 : decode cX12_init 246 = .ok (.sipush 1440, 3) := by decide +kernel
theorem dX12_init_249 : decode cX12_init 249 = .ok (.newarray .int, 2) := by decide +kernel
theorem dX12_init_251 : decode cX12_init 251 = .ok (.putfield 139, 3) := by decide +kernel
theorem dX12_init_254 : decode cX12_init 254 = .ok (.iconst 0, 1) := by decide +kernel
theorem dX12_init_255 : decode cX12_init 255 = .ok (.istore_n 1, 1) := by decide +kernel
theorem dX12_init_256 : decode cX12_init 256 = .ok (.iload_n 1, 1) := by decide +kernel
theorem dX12_init_257 : decode cX12_init 257 = .ok (.sipush 288, 3) := by decide +kernel
theorem dX12_init_260 : decode cX12_init 260 = .ok (.if_icmp .ge 16, 3) := by decide +kernel
theorem dX12_init_263 : decode cX12_init 263 = .ok (.aload_n 0, 1) := by decide +kernel
theorem dX12_init_264 : decode cX12_init 264 = .ok (.getfield 117, 3) := by decide +kernel
theorem dX12_init_267 : decode cX12_init 267 = .ok (.iload_n 1, 1) := by decide +kernel
theorem dX12_init_268 : decode cX12_init 268 = .ok (.iconst (-1), 1) := by decide +kernel
theorem dX12_init_269 : decode cX12_init 269 = .ok (.iastore, 1) := by decide +kernel
theorem dX12_init_270 : decode cX12_init 270 = .ok (.iinc 1 1, 3) := by decide +kernel
theorem dX12_init_273 : decode cX12_init 273 = .ok (.goto (-17), 3) := by decide +kernel
theorem dX12_init_276 : decode cX12_init 276 = .ok (.return_, 1) := by decide +kernel
theorem dX12_add_0 : decode cX12_add 0 = .ok (.ldc 142, 2) := by decide +kernel
theorem dX12_add_2 : decode cX12_add 2 = .ok (.aload_n 0, 1) := by decide +kernel
theorem dX12_add_3 : decode cX12_add 3 = .ok (.getfield 77, 3) := by decide +kernel
theorem dX12_add_6 : decode cX12_add 6 = .ok (.sipush 288, 3) := by decide +kernel
theorem dX12_add_9 : decode cX12_add 9 = .ok (.iaload, 1) := by decide +kernel
theorem dX12_add_10 : decode cX12_add 10 = .ok (.iadd, 1) := by decide +kernel
theorem dX12_add_11 : decode cX12_add 11 = .ok (.istore 5, 2) := by decide +kernel
theorem dX12_add_13 : decode cX12_add 13 = .ok (.aload_n 0, 1) := by decide +kernel
theorem dX12_add_14 : decode cX12_add 14 = .ok (.getfield 65, 3) := by decide +kernel
theorem dX12_add_17 : decode cX12_add 17 = .ok (.iload 5, 2) := by decide +kernel
theorem dX12_add_19 : decode cX12_add 19 = .ok (.iload_n 1, 1) := by decide +kernel
theorem dX12_add_20 : decode cX12_add 20 = .ok (.iastore, 1) := by decide +kernel
theorem dX12_add_21 : decode cX12_add 21 = .ok (.aload_n 0, 1) := by decide +kernel
theorem dX12_add_22 : decode cX12_add 22 = .ok (.getfield 68, 3) := by decide +kernel
theorem dX12_add_25 : decode cX12_add 25 = .ok (.iload 5, 2) := by decide +kernel
theorem dX12_add_27 : decode cX12_add 27 = .ok (.iload_n 2, 1) := by decide +kernel
theorem dX12_add_28 : decode cX12_add 28 = .ok (.iastore, 1) := by decide +kernel
theorem dX12_add_29 : decode cX12_add 29 = .ok (.aload_n 0, 1) := by decide +kernel
theorem dX12_add_30 : decode cX12_add 30 = .ok (.getfield 71, 3) := by decide +kernel
theorem dX12_add_33 : decode cX12_add 33 = .ok (.iload 5, 2) := by decide +kernel
theorem dX12_add_35 : decode cX12_add 35 = .ok (.iload_n 3, 1) := by decide +kernel
theorem dX12_add_36 : decode cX12_add 36 = .ok (.iastore, 1) := by decide +kernel
theorem dX12_add_37 : decode cX12_add 37 = .ok (.aload_n 0, 1) := by decide +kernel
theorem dX12_add_38 : decode cX12_add 38 = .ok (.getfield 74, 3) := by decide +kernel
theorem dX12_add_41 : decode cX12_add 41 = .ok (.iload 5, 2) := by decide +kernel
theorem dX12_add_43 : decode cX12_add 43 = .ok (.iload 4, 2) := by decide +kernel
theorem dX12_add_45 : decode cX12_add 45 = .ok (.iastore, 1) := by decide +kernel
theorem dX12_add_46 : decode cX12_add 46 = .ok (.aload_n 0, 1) := by decide +kernel
theorem dX12_add_47 : decode cX12_add 47 = .ok (.getfield 77, 3) := by decide +kernel
theorem dX12_add_50 : decode cX12_add 50 = .ok (.sipush 288, 3) := by decide +kernel
theorem dX12_add_53 : decode cX12_add 53 = .ok (.dup2, 1) := by decide +kernel
theorem dX12_add_54 : decode cX12_add 54 = .ok (.iaload, 1) := by decide +kernel
theorem dX12_add_55 : decode cX12_add 55 = .ok (.iconst 1, 1) := by decide +kernel
theorem dX12_add_56 : decode cX12_add 56 = .ok (.iadd, 1) := by decide +kernel
theorem dX12_add_57 : decode cX12_add 57 = .ok (.iastore, 1) := by decide +kernel
theorem dX12_add_58 : decode cX12_add 58 = .ok (.return_, 1) := by decide +kernel
theorem dX12_takeSign_0 : decode cX12_takeSign 0 = .ok (.aload_n 0, 1) := by decide +kernel
theorem dX12_takeSign_1 : decode cX12_takeSign 1 = .ok (.iload_n 1, 1) := by decide +kernel
theorem dX12_takeSign_2 : decode cX12_takeSign 2 = .ok (.invokevirtual 55, 3) := by decide +kernel
theorem dX12_takeSign_5 : decode cX12_takeSign 5 = .ok (.ifCond .eq 24, 3) := by decide +kernel
theorem dX12_takeSign_8 : decode cX12_takeSign 8 = .ok (.aload_n 0, 1) := by decide +kernel
theorem dX12_takeSign_9 : decode cX12_takeSign 9 = .ok (.dup, 1) := by decide +kernel
theorem dX12_takeSign_10 : decode cX12_takeSign 10 = .ok (.getfield 49, 3) := by decide +kernel
theorem dX12_takeSign_13 : decode cX12_takeSign 13 = .ok (.iconst 1, 1) := by decide +kernel
theorem dX12_takeSign_14 : decode cX12_takeSign 14 = .ok (.iadd, 1) := by decide +kernel
theorem dX12_takeSign_15 : decode cX12_takeSign 15 = .ok (.putfield 49, 3) := by decide +kernel
theorem dX12_takeSign_18 : decode cX12_takeSign 18 = .ok (.aload_n 0, 1) := by decide +kernel
theorem dX12_takeSign_19 : decode cX12_takeSign 19 = .ok (.iconst 1, 1) := by decide +kernel
theorem dX12_takeSign_20 : decode cX12_takeSign 20 = .ok (.iload_n 1, 1) := by decide +kernel
theorem dX12_takeSign_21 : decode cX12_takeSign 21 = .ok (.iconst 0, 1) := by decide +kernel
theorem dX12_takeSign_22 : decode cX12_takeSign 22 = .ok (.iconst 0, 1) := by decide +kernel
theorem dX12_takeSign_23 : decode cX12_takeSign 23 = .ok (.invokevirtual 143, 3) := by decide +kernel
theorem dX12_takeSign_26 : decode cX12_takeSign 26 = .ok (.goto 8, 3) := by decide +kernel
theorem dX12_takeSign_29 : decode cX12_takeSign 29 = .ok (.aload_n 0, 1) := by decide +kernel
theorem dX12_takeSign_30 : decode cX12_takeSign 30 = .ok (.iconst 1, 1) := by decide +kernel
theorem dX12_takeSign_31 : decode cX12_takeSign 31 = .ok (.invokevirtual 147, 3) := by decide +kernel
theorem dX12_takeSign_34 : decode cX12_takeSign 34 = .ok (.return_, 1) := by decide +kernel
theorem dX12_isSum_0 : decode cX12_isSum 0 = .ok (.aload_n 0, 1) := by decide +kernel
theorem dX12_isSum_1 : decode cX12_isSum 1 = .ok (.getfield 52, 3) := by decide +kernel
theorem dX12_isSum_4 : decode cX12_isSum 4 = .ok (.ifCond .ne 36, 3) := by decide +kernel
theorem dX12_isSum_7 : decode cX12_isSum 7 = .ok (.aload_n 0, 1) := by decide +kernel
theorem dX12_isSum_8 : decode cX12_isSum 8 = .ok (.getfield 32, 3) := by decide +kernel
theorem dX12_isSum_11 : decode cX12_isSum 11 = .ok (.aload_n 0, 1) := by decide +kernel
theorem dX12_isSum_12 : decode cX12_isSum 12 = .ok (.getfield 49, 3) := by decide +kernel
theorem dX12_isSum_15 : decode cX12_isSum 15 = .ok (.iaload, 1) := by decide +kernel
theorem dX12_isSum_16 : decode cX12_isSum 16 = .ok (.iconst 1, 1) := by decide +kernel
theorem dX12_isSum_17 : decode cX12_isSum 17 = .ok (.if_icmp .ne 23, 3) := by decide +kernel
theorem dX12_isSum_20 : decode cX12_isSum 20 = .ok (.aload_n 0, 1) := by decide +kernel
theorem dX12_isSum_21 : decode cX12_isSum 21 = .ok (.getfield 45, 3) := by decide +kernel
theorem dX12_isSum_24 : decode cX12_isSum 24 = .ok (.aload_n 0, 1) := by decide +kernel
theorem dX12_isSum_25 : decode cX12_isSum 25 = .ok (.getfield 49, 3) := by decide +kernel
theorem dX12_isSum_28 : decode cX12_isSum 28 = .ok (.laload, 1) := by decide +kernel
theorem dX12_isSum_29 : decode cX12_isSum 29 = .ok (.ldc2_w 151, 3) := by decide +kernel
theorem dX12_isSum_32 : decode cX12_isSum 32 = .ok (.lcmp, 1) := by decide +kernel
theorem dX12_isSum_33 : decode cX12_isSum 33 = .ok (.ifCond .ne 7, 3) := by decide +kernel
theorem dX12_isSum_36 : decode cX12_isSum 36 = .ok (.iconst 1, 1) := by decide +kernel
theorem dX12_isSum_37 : decode cX12_isSum 37 = .ok (.goto 4, 3) := by decide +kernel
theorem dX12_isSum_40 : decode cX12_isSum 40 = .ok (.iconst 0, 1) := by decide +kernel
theorem dX12_isSum_41 : decode cX12_isSum 41 = .ok (.ireturn, 1) := by decide +kernel
theorem dX12_isColumn_0 : decode cX12_isColumn 0 = .ok (.aload_n 0, 1) := by decide +kernel
theorem dX12_isColumn_1 : decode cX12_isColumn 1 = .ok (.getfield 52, 3) := by decide +kernel
theorem dX12_isColumn_4 : decode cX12_isColumn 4 = .ok (.ifCond .ne 50, 3) := by decide +kernel
theorem dX12_isColumn_7 : decode cX12_isColumn 7 = .ok (.aload_n 0, 1) := by decide +kernel
theorem dX12_isColumn_8 : decode cX12_isColumn 8 = .ok (.getfield 32, 3) := by decide +kernel
theorem dX12_isColumn_11 : decode cX12_isColumn 11 = .ok (.aload_n 0, 1) := by decide +kernel
theorem dX12_isColumn_12 : decode cX12_isColumn 12 = .ok (.getfield 49, 3) := by decide +kernel
theorem dX12_isColumn_15 : decode cX12_isColumn 15 = .ok (.iaload, 1) := by decide +kernel
theorem dX12_isColumn_16 : decode cX12_isColumn 16 = .ok (.iconst 1, 1) := by decide +kernel
theorem dX12_isColumn_17 : decode cX12_isColumn 17 = .ok (.if_icmp .ne 37, 3) := by decide +kernel
theorem dX12_isColumn_20 : decode cX12_isColumn 20 = .ok (.aload_n 0, 1) := by decide +kernel
theorem dX12_isColumn_21 : decode cX12_isColumn 21 = .ok (.getfield 45, 3) := by decide +kernel
theorem dX12_isColumn_24 : decode cX12_isColumn 24 = .ok (.aload_n 0, 1) := by decide +kernel
theorem dX12_isColumn_25 : decode cX12_isColumn 25 = .ok (.getfield 49, 3) := by decide +kernel
theorem dX12_isColumn_28 : decode cX12_isColumn 28 = .ok (.laload, 1) := by decide +kernel
theorem dX12_isColumn_29 : decode cX12_isColumn 29 = .ok (.lconst 1, 1) := by decide +kernel
theorem dX12_isColumn_30 : decode cX12_isColumn 30 = .ok (.lcmp, 1) := by decide +kernel
theorem dX12_isColumn_31 : decode cX12_isColumn 31 = .ok (.ifCond .lt 23, 3) := by decide +kernel
theorem dX12_isColumn_34 : decode cX12_isColumn 34 = .ok (.aload_n 0, 1) := by decide +kernel
theorem dX12_isColumn_35 : decode cX12_isColumn 35 = .ok (.getfield 45, 3) := by decide +kernel
theorem dX12_isColumn_38 : decode cX12_isColumn 38 = .ok (.aload_n 0, 1) := by decide +kernel
theorem dX12_isColumn_39 : decode cX12_isColumn 39 = .ok (.getfield 49, 3) := by decide +kernel
theorem dX12_isColumn_42 : decode cX12_isColumn 42 = .ok (.laload, 1) := by decide +kernel
theorem dX12_isColumn_43 : decode cX12_isColumn 43 = .ok (.ldc2_w 153, 3) := by decide +kernel
theorem dX12_isColumn_46 : decode cX12_isColumn 46 = .ok (.lcmp, 1) := by decide +kernel
theorem dX12_isColumn_47 : decode cX12_isColumn 47 = .ok (.ifCond .gt 7, 3) := by decide +kernel
theorem dX12_isColumn_50 : decode cX12_isColumn 50 = .ok (.iconst 1, 1) := by decide +kernel
theorem dX12_isColumn_51 : decode cX12_isColumn 51 = .ok (.goto 4, 3) := by decide +kernel
theorem dX12_isColumn_54 : decode cX12_isColumn 54 = .ok (.iconst 0, 1) := by decide +kernel
theorem dX12_isColumn_55 : decode cX12_isColumn 55 = .ok (.ireturn, 1) := by decide +kernel
theorem dX12_readE_0 : decode cX12_readE 0 = .ok (.aload_n 0, 1) := by decide +kernel
theorem dX12_readE_1 : decode cX12_readE 1 = .ok (.invokevirtual 155, 3) := by decide +kernel
theorem dX12_readE_4 : decode cX12_readE 4 = .ok (.aload_n 0, 1) := by decide +kernel
theorem dX12_readE_5 : decode cX12_readE 5 = .ok (.bipush 43, 2) := by decide +kernel
theorem dX12_readE_7 : decode cX12_readE 7 = .ok (.invokevirtual 55, 3) := by decide +kernel
theorem dX12_readE_10 : decode cX12_readE 10 = .ok (.ifCond .ne 12, 3) := by decide +kernel
theorem dX12_readE_13 : decode cX12_readE 13 = .ok (.aload_n 0, 1) := by decide +kernel
theorem dX12_readE_14 : decode cX12_readE 14 = .ok (.bipush 45, 2) := by decide +kernel
theorem dX12_readE_16 : decode cX12_readE 16 = .ok (.invokevirtual 55, 3) := by decide +kernel
theorem dX12_readE_19 : decode cX12_readE 19 = .ok (.ifCond .eq 24, 3) := by decide +kernel
theorem dX12_readE_22 : decode cX12_readE 22 = .ok (.aload_n 0, 1) := by decide +kernel
theorem dX12_readE_23 : decode cX12_readE 23 = .ok (.aload_n 0, 1) := by decide +kernel
theorem dX12_readE_24 : decode cX12_readE 24 = .ok (.getfield 45, 3) := by decide +kernel
theorem dX12_readE_27 : decode cX12_readE 27 = .ok (.aload_n 0, 1) := by decide +kernel
theorem dX12_readE_28 : decode cX12_readE 28 = .ok (.getfield 49, 3) := by decide +kernel
theorem dX12_readE_31 : decode cX12_readE 31 = .ok (.laload, 1) := by decide +kernel
theorem dX12_readE_32 : decode cX12_readE 32 = .ok (.l2i, 1) := by decide +kernel
theorem dX12_readE_33 : decode cX12_readE 33 = .ok (.invokevirtual 158, 3) := by decide +kernel
theorem dX12_readE_36 : decode cX12_readE 36 = .ok (.aload_n 0, 1) := by decide +kernel
theorem dX12_readE_37 : decode cX12_readE 37 = .ok (.invokevirtual 155, 3) := by decide +kernel
theorem dX12_readE_40 : decode cX12_readE 40 = .ok (.goto (-36), 3) := by decide +kernel
theorem dX12_readE_43 : decode cX12_readE 43 = .ok (.return_, 1) := by decide +kernel
theorem dX12_readProduct_0 : decode cX12_readProduct 0 = .ok (.aload_n 0, 1) := by decide +kernel
theorem dX12_readProduct_1 : decode cX12_readProduct 1 = .ok (.invokevirtual 161, 3) := by decide +kernel
theorem dX12_readProduct_4 : decode cX12_readProduct 4 = .ok (.aload_n 0, 1) := by decide +kernel
theorem dX12_readProduct_5 : decode cX12_readProduct 5 = .ok (.bipush 42, 2) := by decide +kernel
theorem dX12_readProduct_7 : decode cX12_readProduct 7 = .ok (.invokevirtual 55, 3) := by decide +kernel
theorem dX12_readProduct_10 : decode cX12_readProduct 10 = .ok (.ifCond .ne 12, 3) := by decide +kernel
theorem dX12_readProduct_13 : decode cX12_readProduct 13 = .ok (.aload_n 0, 1) := by decide +kernel
theorem dX12_readProduct_14 : decode cX12_readProduct 14 = .ok (.bipush 47, 2) := by decide +kernel
theorem dX12_readProduct_16 : decode cX12_readProduct 16 = .ok (.invokevirtual 55, 3) := by decide +kernel
theorem dX12_readProduct_19 : decode cX12_readProduct 19 = .ok (.ifCond .eq 24, 3) := by decide +kernel
theorem dX12_readProduct_22 : decode cX12_readProduct 22 = .ok (.aload_n 0, 1) := by decide +kernel
theorem dX12_readProduct_23 : decode cX12_readProduct 23 = .ok (.aload_n 0, 1) := by decide +kernel
theorem dX12_readProduct_24 : decode cX12_readProduct 24 = .ok (.getfield 45, 3) := by decide +kernel
theorem dX12_readProduct_27 : decode cX12_readProduct 27 = .ok (.aload_n 0, 1) := by decide +kernel
theorem dX12_readProduct_28 : decode cX12_readProduct 28 = .ok (.getfield 49, 3) := by decide +kernel
theorem dX12_readProduct_31 : decode cX12_readProduct 31 = .ok (.laload, 1) := by decide +kernel
theorem dX12_readProduct_32 : decode cX12_readProduct 32 = .ok (.l2i, 1) := by decide +kernel
theorem dX12_readProduct_33 : decode cX12_readProduct 33 = .ok (.invokevirtual 158, 3) := by decide +kernel
theorem dX12_readProduct_36 : decode cX12_readProduct 36 = .ok (.aload_n 0, 1) := by decide +kernel
theorem dX12_readProduct_37 : decode cX12_readProduct 37 = .ok (.invokevirtual 161, 3) := by decide +kernel
theorem dX12_readProduct_40 : decode cX12_readProduct 40 = .ok (.goto (-36), 3) := by decide +kernel
theorem dX12_readProduct_43 : decode cX12_readProduct 43 = .ok (.return_, 1) := by decide +kernel
theorem dX12_isPart_0 : decode cX12_isPart 0 = .ok (.aload_n 0, 1) := by decide +kernel
theorem dX12_isPart_1 : decode cX12_isPart 1 = .ok (.getfield 52, 3) := by decide +kernel
theorem dX12_isPart_4 : decode cX12_isPart 4 = .ok (.ifCond .ne 61, 3) := by decide +kernel
theorem dX12_isPart_7 : decode cX12_isPart 7 = .ok (.aload_n 0, 1) := by decide +kernel
theorem dX12_isPart_8 : decode cX12_isPart 8 = .ok (.getfield 32, 3) := by decide +kernel
theorem dX12_isPart_11 : decode cX12_isPart 11 = .ok (.aload_n 0, 1) := by decide +kernel
theorem dX12_isPart_12 : decode cX12_isPart 12 = .ok (.getfield 49, 3) := by decide +kernel
theorem dX12_isPart_15 : decode cX12_isPart 15 = .ok (.iaload, 1) := by decide +kernel
theorem dX12_isPart_16 : decode cX12_isPart 16 = .ok (.iconst 2, 1) := by decide +kernel
theorem dX12_isPart_17 : decode cX12_isPart 17 = .ok (.if_icmp .eq 44, 3) := by decide +kernel
theorem dX12_isPart_20 : decode cX12_isPart 20 = .ok (.aload_n 0, 1) := by decide +kernel
theorem dX12_isPart_21 : decode cX12_isPart 21 = .ok (.invokevirtual 164, 3) := by decide +kernel
theorem dX12_isPart_24 : decode cX12_isPart 24 = .ok (.ifCond .ne 37, 3) := by decide +kernel
theorem dX12_isPart_27 : decode cX12_isPart 27 = .ok (.aload_n 0, 1) := by decide +kernel
theorem dX12_isPart_28 : decode cX12_isPart 28 = .ok (.invokevirtual 168, 3) := by decide +kernel
theorem dX12_isPart_31 : decode cX12_isPart 31 = .ok (.ifCond .ne 30, 3) := by decide +kernel
theorem dX12_isPart_34 : decode cX12_isPart 34 = .ok (.aload_n 0, 1) := by decide +kernel
theorem dX12_isPart_35 : decode cX12_isPart 35 = .ok (.bipush 36, 2) := by decide +kernel
theorem dX12_isPart_37 : decode cX12_isPart 37 = .ok (.invokevirtual 55, 3) := by decide +kernel
theorem dX12_isPart_40 : decode cX12_isPart 40 = .ok (.ifCond .ne 21, 3) := by decide +kernel
theorem dX12_isPart_43 : decode cX12_isPart 43 = .ok (.aload_n 0, 1) := by decide +kernel
theorem dX12_isPart_44 : decode cX12_isPart 44 = .ok (.bipush 40, 2) := by decide +kernel
theorem dX12_isPart_46 : decode cX12_isPart 46 = .ok (.invokevirtual 55, 3) := by decide +kernel
theorem dX12_isPart_49 : decode cX12_isPart 49 = .ok (.ifCond .ne 12, 3) := by decide +kernel
theorem dX12_isPart_52 : decode cX12_isPart 52 = .ok (.aload_n 0, 1) := by decide +kernel
theorem dX12_isPart_53 : decode cX12_isPart 53 = .ok (.bipush 45, 2) := by decide +kernel
theorem dX12_isPart_55 : decode cX12_isPart 55 = .ok (.invokevirtual 55, 3) := by decide +kernel
theorem dX12_isPart_58 : decode cX12_isPart 58 = .ok (.ifCond .eq 7, 3) := by decide +kernel
theorem dX12_isPart_61 : decode cX12_isPart 61 = .ok (.iconst 1, 1) := by decide +kernel
theorem dX12_isPart_62 : decode cX12_isPart 62 = .ok (.goto 4, 3) := by decide +kernel
theorem dX12_isPart_65 : decode cX12_isPart 65 = .ok (.iconst 0, 1) := by decide +kernel
theorem dX12_isPart_66 : decode cX12_isPart 66 = .ok (.ireturn, 1) := by decide +kernel
theorem dX12_readPart_0 : decode cX12_readPart 0 = .ok (.aload_n 0, 1) := by decide +kernel
theorem dX12_readPart_1 : decode cX12_readPart 1 = .ok (.invokevirtual 171, 3) := by decide +kernel
theorem dX12_readPart_4 : decode cX12_readPart 4 = .ok (.ifCond .ne 11, 3) := by decide +kernel
theorem dX12_readPart_7 : decode cX12_readPart 7 = .ok (.aload_n 0, 1) := by decide +kernel
theorem dX12_readPart_8 : decode cX12_readPart 8 = .ok (.iconst 1, 1) := by decide +kernel
theorem dX12_readPart_9 : decode cX12_readPart 9 = .ok (.invokevirtual 147, 3) := by decide +kernel
theorem dX12_readPart_12 : decode cX12_readPart 12 = .ok (.goto 17, 3) := by decide +kernel
theorem dX12_readPart_15 : decode cX12_readPart 15 = .ok (.aload_n 0, 1) := by decide +kernel
theorem dX12_readPart_16 : decode cX12_readPart 16 = .ok (.getfield 174, 3) := by decide +kernel
theorem dX12_readPart_19 : decode cX12_readPart 19 = .ok (.bipush 8, 2) := by decide +kernel
theorem dX12_readPart_21 : decode cX12_readPart 21 = .ok (.if_icmp .ne 8, 3) := by decide +kernel
theorem dX12_readPart_24 : decode cX12_readPart 24 = .ok (.aload_n 0, 1) := by decide +kernel
theorem dX12_readPart_25 : decode cX12_readPart 25 = .ok (.iconst 5, 1) := by decide +kernel
theorem dX12_readPart_26 : decode cX12_readPart 26 = .ok (.invokevirtual 147, 3) := by decide +kernel
theorem dX12_readPart_29 : decode cX12_readPart 29 = .ok (.aload_n 0, 1) := by decide +kernel
theorem dX12_readPart_30 : decode cX12_readPart 30 = .ok (.getfield 52, 3) := by decide +kernel
theorem dX12_readPart_33 : decode cX12_readPart 33 = .ok (.ifCond .le 4, 3) := by decide +kernel
theorem dX12_readPart_36 : decode cX12_readPart 36 = .ok (.return_, 1) := by decide +kernel
theorem dX12_readPart_37 : decode cX12_readPart 37 = .ok (.aload_n 0, 1) := by decide +kernel
theorem dX12_readPart_38 : decode cX12_readPart 38 = .ok (.dup, 1) := by decide +kernel
theorem dX12_readPart_39 : decode cX12_readPart 39 = .ok (.getfield 174, 3) := by decide +kernel
theorem dX12_readPart_42 : decode cX12_readPart 42 = .ok (.iconst 1, 1) := by decide +kernel
theorem dX12_readPart_43 : decode cX12_readPart 43 = .ok (.iadd, 1) := by decide +kernel
theorem dX12_readPart_44 : decode cX12_readPart 44 = .ok (.putfield 174, 3) := by decide +kernel
theorem dX12_readPart_47 : decode cX12_readPart 47 = .ok (.aload_n 0, 1) := by decide +kernel
theorem dX12_readPart_48 : decode cX12_readPart 48 = .ok (.getfield 32, 3) := by decide +kernel
theorem dX12_readPart_51 : decode cX12_readPart 51 = .ok (.aload_n 0, 1) := by decide +kernel
theorem dX12_readPart_52 : decode cX12_readPart 52 = .ok (.getfield 49, 3) := by decide +kernel
theorem dX12_readPart_55 : decode cX12_readPart 55 = .ok (.iaload, 1) := by decide +kernel
theorem dX12_readPart_56 : decode cX12_readPart 56 = .ok (.iconst 2, 1) := by decide +kernel
theorem dX12_readPart_57 : decode cX12_readPart 57 = .ok (.if_icmp .ne 33, 3) := by decide +kernel
theorem dX12_readPart_60 : decode cX12_readPart 60 = .ok (.aload_n 0, 1) := by decide +kernel
theorem dX12_readPart_61 : decode cX12_readPart 61 = .ok (.iconst 0, 1) := by decide +kernel
theorem dX12_readPart_62 : decode cX12_readPart 62 = .ok (.aload_n 0, 1) := by decide +kernel
theorem dX12_readPart_63 : decode cX12_readPart 63 = .ok (.getfield 45, 3) := by decide +kernel
theorem dX12_readPart_66 : decode cX12_readPart 66 = .ok (.aload_n 0, 1) := by decide +kernel
theorem dX12_readPart_67 : decode cX12_readPart 67 = .ok (.getfield 49, 3) := by decide +kernel
theorem dX12_readPart_70 : decode cX12_readPart 70 = .ok (.laload, 1) := by decide +kernel
theorem dX12_readPart_71 : decode cX12_readPart 71 = .ok (.l2i, 1) := by decide +kernel
theorem dX12_readPart_72 : decode cX12_readPart 72 = .ok (.iconst 0, 1) := by decide +kernel
theorem dX12_readPart_73 : decode cX12_readPart 73 = .ok (.iconst 0, 1) := by decide +kernel
theorem dX12_readPart_74 : decode cX12_readPart 74 = .ok (.invokevirtual 143, 3) := by decide +kernel
theorem dX12_readPart_77 : decode cX12_readPart 77 = .ok (.aload_n 0, 1) := by decide +kernel
theorem dX12_readPart_78 : decode cX12_readPart 78 = .ok (.dup, 1) := by decide +kernel
theorem dX12_readPart_79 : decode cX12_readPart 79 = .ok (.getfield 49, 3) := by decide +kernel
theorem dX12_readPart_82 : decode cX12_readPart 82 = .ok (.iconst 1, 1) := by decide +kernel
theorem dX12_readPart_83 : decode cX12_readPart 83 = .ok (.iadd, 1) := by decide +kernel
theorem dX12_readPart_84 : decode cX12_readPart 84 = .ok (.putfield 49, 3) := by decide +kernel
theorem dX12_readPart_87 : decode cX12_readPart 87 = .ok (.goto 126, 3) := by decide +kernel
theorem dX12_readPart_90 : decode cX12_readPart 90 = .ok (.aload_n 0, 1) := by decide +kernel
theorem dX12_readPart_91 : decode cX12_readPart 91 = .ok (.invokevirtual 168, 3) := by decide +kernel
theorem dX12_readPart_94 : decode cX12_readPart 94 = .ok (.ifCond .eq 64, 3) := by decide +kernel
theorem dX12_readPart_97 : decode cX12_readPart 97 = .ok (.aload_n 0, 1) := by decide +kernel
theorem dX12_readPart_98 : decode cX12_readPart 98 = .ok (.dup, 1) := by decide +kernel
theorem dX12_readPart_99 : decode cX12_readPart 99 = .ok (.getfield 49, 3) := by decide +kernel
theorem dX12_readPart_102 : decode cX12_readPart 102 = .ok (.iconst 1, 1) := by decide +kernel
theorem dX12_readPart_103 : decode cX12_readPart 103 = .ok (.iadd, 1) := by decide +kernel
theorem dX12_readPart_104 : decode cX12_readPart 104 = .ok (.putfield 49, 3) := by decide +kernel
theorem dX12_readPart_107 : decode cX12_readPart 107 = .ok (.aload_n 0, 1) := by decide +kernel
theorem dX12_readPart_108 : decode cX12_readPart 108 = .ok (.iconst 2, 1) := by decide +kernel
theorem dX12_readPart_109 : decode cX12_readPart 109 = .ok (.iconst 0, 1) := by decide +kernel
theorem dX12_readPart_110 : decode cX12_readPart 110 = .ok (.iconst 0, 1) := by decide +kernel
theorem dX12_readPart_111 : decode cX12_readPart 111 = .ok (.iconst 0, 1) := by decide +kernel
theorem dX12_readPart_112 : decode cX12_readPart 112 = .ok (.invokevirtual 143, 3) := by decide +kernel
theorem dX12_readPart_115 : decode cX12_readPart 115 = .ok (.aload_n 0, 1) := by decide +kernel
theorem dX12_readPart_116 : decode cX12_readPart 116 = .ok (.bipush 40, 2) := by decide +kernel
theorem dX12_readPart_118 : decode cX12_readPart 118 = .ok (.invokevirtual 158, 3) := by decide +kernel
theorem dX12_readPart_121 : decode cX12_readPart 121 = .ok (.ldc 142, 2) := by decide +kernel
theorem dX12_readPart_123 : decode cX12_readPart 123 = .ok (.aload_n 0, 1) := by decide +kernel
theorem dX12_readPart_124 : decode cX12_readPart 124 = .ok (.getfield 77, 3) := by decide +kernel
theorem dX12_readPart_127 : decode cX12_readPart 127 = .ok (.sipush 288, 3) := by decide +kernel
theorem dX12_readPart_130 : decode cX12_readPart 130 = .ok (.iaload, 1) := by decide +kernel
theorem dX12_readPart_131 : decode cX12_readPart 131 = .ok (.iadd, 1) := by decide +kernel
theorem dX12_readPart_132 : decode cX12_readPart 132 = .ok (.istore_n 1, 1) := by decide +kernel
theorem dX12_readPart_133 : decode cX12_readPart 133 = .ok (.aload_n 0, 1) := by decide +kernel
theorem dX12_readPart_134 : decode cX12_readPart 134 = .ok (.iconst (-1), 1) := by decide +kernel
theorem dX12_readPart_135 : decode cX12_readPart 135 = .ok (.invokevirtual 177, 3) := by decide +kernel
theorem dX12_readPart_138 : decode cX12_readPart 138 = .ok (.aload_n 0, 1) := by decide +kernel
theorem dX12_readPart_139 : decode cX12_readPart 139 = .ok (.bipush 58, 2) := by decide +kernel
theorem dX12_readPart_141 : decode cX12_readPart 141 = .ok (.invokevirtual 158, 3) := by decide +kernel
theorem dX12_readPart_144 : decode cX12_readPart 144 = .ok (.aload_n 0, 1) := by decide +kernel
theorem dX12_readPart_145 : decode cX12_readPart 145 = .ok (.iload_n 1, 1) := by decide +kernel
theorem dX12_readPart_146 : decode cX12_readPart 146 = .ok (.invokevirtual 177, 3) := by decide +kernel
theorem dX12_readPart_149 : decode cX12_readPart 149 = .ok (.aload_n 0, 1) := by decide +kernel
theorem dX12_readPart_150 : decode cX12_readPart 150 = .ok (.bipush 41, 2) := by decide +kernel
theorem dX12_readPart_152 : decode cX12_readPart 152 = .ok (.invokevirtual 158, 3) := by decide +kernel
theorem dX12_readPart_155 : decode cX12_readPart 155 = .ok (.goto 58, 3) := by decide +kernel
theorem dX12_readPart_158 : decode cX12_readPart 158 = .ok (.aload_n 0, 1) := by decide +kernel
theorem dX12_readPart_159 : decode cX12_readPart 159 = .ok (.bipush 40, 2) := by decide +kernel
theorem dX12_readPart_161 : decode cX12_readPart 161 = .ok (.invokevirtual 55, 3) := by decide +kernel
theorem dX12_readPart_164 : decode cX12_readPart 164 = .ok (.ifCond .eq 22, 3) := by decide +kernel
theorem dX12_readPart_167 : decode cX12_readPart 167 = .ok (.aload_n 0, 1) := by decide +kernel
theorem dX12_readPart_168 : decode cX12_readPart 168 = .ok (.bipush 40, 2) := by decide +kernel
theorem dX12_readPart_170 : decode cX12_readPart 170 = .ok (.invokevirtual 158, 3) := by decide +kernel
theorem dX12_readPart_173 : decode cX12_readPart 173 = .ok (.aload_n 0, 1) := by decide +kernel
theorem dX12_readPart_174 : decode cX12_readPart 174 = .ok (.invokevirtual 180, 3) := by decide +kernel
theorem dX12_readPart_177 : decode cX12_readPart 177 = .ok (.aload_n 0, 1) := by decide +kernel
theorem dX12_readPart_178 : decode cX12_readPart 178 = .ok (.bipush 41, 2) := by decide +kernel
theorem dX12_readPart_180 : decode cX12_readPart 180 = .ok (.invokevirtual 158, 3) := by decide +kernel
theorem dX12_readPart_183 : decode cX12_readPart 183 = .ok (.goto 30, 3) := by decide +kernel
theorem dX12_readPart_186 : decode cX12_readPart 186 = .ok (.aload_n 0, 1) := by decide +kernel
theorem dX12_readPart_187 : decode cX12_readPart 187 = .ok (.bipush 45, 2) := by decide +kernel
theorem dX12_readPart_189 : decode cX12_readPart 189 = .ok (.invokevirtual 55, 3) := by decide +kernel
theorem dX12_readPart_192 : decode cX12_readPart 192 = .ok (.ifCond .eq 16, 3) := by decide +kernel
theorem dX12_readPart_195 : decode cX12_readPart 195 = .ok (.aload_n 0, 1) := by decide +kernel
theorem dX12_readPart_196 : decode cX12_readPart 196 = .ok (.bipush 45, 2) := by decide +kernel
theorem dX12_readPart_198 : decode cX12_readPart 198 = .ok (.invokevirtual 158, 3) := by decide +kernel
theorem dX12_readPart_201 : decode cX12_readPart 201 = .ok (.aload_n 0, 1) := by decide +kernel
theorem dX12_readPart_202 : decode cX12_readPart 202 = .ok (.invokevirtual 161, 3) := by decide +kernel
theorem dX12_readPart_205 : decode cX12_readPart 205 = .ok (.goto 8, 3) := by decide +kernel
theorem dX12_readPart_208 : decode cX12_readPart 208 = .ok (.aload_n 0, 1) := by decide +kernel
theorem dX12_readPart_209 : decode cX12_readPart 209 = .ok (.iconst (-1), 1) := by decide +kernel
theorem dX12_readPart_210 : decode cX12_readPart 210 = .ok (.invokevirtual 177, 3) := by decide +kernel
theorem dX12_readPart_213 : decode cX12_readPart 213 = .ok (.aload_n 0, 1) := by decide +kernel
theorem dX12_readPart_214 : decode cX12_readPart 214 = .ok (.dup, 1) := by decide +kernel
theorem dX12_readPart_215 : decode cX12_readPart 215 = .ok (.getfield 174, 3) := by decide +kernel
theorem dX12_readPart_218 : decode cX12_readPart 218 = .ok (.iconst 1, 1) := by decide +kernel
theorem dX12_readPart_219 : decode cX12_readPart 219 = .ok (.isub, 1) := by decide +kernel
theorem dX12_readPart_220 : decode cX12_readPart 220 = .ok (.putfield 174, 3) := by decide +kernel
theorem dX12_readPart_223 : decode cX12_readPart 223 = .ok (.return_, 1) := by decide +kernel
theorem dX12_readRef_0 : decode cX12_readRef 0 = .ok (.aload_n 0, 1) := by decide +kernel
theorem dX12_readRef_1 : decode cX12_readRef 1 = .ok (.bipush 36, 2) := by decide +kernel
theorem dX12_readRef_3 : decode cX12_readRef 3 = .ok (.invokevirtual 183, 3) := by decide +kernel
theorem dX12_readRef_6 : decode cX12_readRef 6 = .ok (.ifCond .eq 7, 3) := by decide +kernel
theorem dX12_readRef_9 : decode cX12_readRef 9 = .ok (.iconst 1, 1) := by decide +kernel
theorem dX12_readRef_10 : decode cX12_readRef 10 = .ok (.goto 4, 3) := by decide +kernel
theorem dX12_readRef_13 : decode cX12_readRef 13 = .ok (.iconst 0, 1) := by decide +kernel
theorem dX12_readRef_14 : decode cX12_readRef 14 = .ok (.istore_n 2, 1) := by decide +kernel
theorem dX12_readRef_15 : decode cX12_readRef 15 = .ok (.aload_n 0, 1) := by decide +kernel
theorem dX12_readRef_16 : decode cX12_readRef 16 = .ok (.invokevirtual 164, 3) := by decide +kernel
theorem dX12_readRef_19 : decode cX12_readRef 19 = .ok (.ifCond .ne 11, 3) := by decide +kernel
theorem dX12_readRef_22 : decode cX12_readRef 22 = .ok (.aload_n 0, 1) := by decide +kernel
theorem dX12_readRef_23 : decode cX12_readRef 23 = .ok (.iconst 1, 1) := by decide +kernel
theorem dX12_readRef_24 : decode cX12_readRef 24 = .ok (.invokevirtual 147, 3) := by decide +kernel
theorem dX12_readRef_27 : decode cX12_readRef 27 = .ok (.goto 35, 3) := by decide +kernel
theorem dX12_readRef_30 : decode cX12_readRef 30 = .ok (.iload_n 1, 1) := by decide +kernel
theorem dX12_readRef_31 : decode cX12_readRef 31 = .ok (.ifCond .lt 31, 3) := by decide +kernel
theorem dX12_readRef_34 : decode cX12_readRef 34 = .ok (.aload_n 0, 1) := by decide +kernel
theorem dX12_readRef_35 : decode cX12_readRef 35 = .ok (.getfield 45, 3) := by decide +kernel
theorem dX12_readRef_38 : decode cX12_readRef 38 = .ok (.aload_n 0, 1) := by decide +kernel
theorem dX12_readRef_39 : decode cX12_readRef 39 = .ok (.getfield 49, 3) := by decide +kernel
theorem dX12_readRef_42 : decode cX12_readRef 42 = .ok (.laload, 1) := by decide +kernel
theorem dX12_readRef_43 : decode cX12_readRef 43 = .ok (.lconst 1, 1) := by decide +kernel
theorem dX12_readRef_44 : decode cX12_readRef 44 = .ok (.lsub, 1) := by decide +kernel
theorem dX12_readRef_45 : decode cX12_readRef 45 = .ok (.aload_n 0, 1) := by decide +kernel
theorem dX12_readRef_46 : decode cX12_readRef 46 = .ok (.getfield 68, 3) := by decide +kernel
theorem dX12_readRef_49 : decode cX12_readRef 49 = .ok (.iload_n 1, 1) := by decide +kernel
theorem dX12_readRef_50 : decode cX12_readRef 50 = .ok (.iaload, 1) := by decide +kernel
theorem dX12_readRef_51 : decode cX12_readRef 51 = .ok (.i2l, 1) := by decide +kernel
theorem dX12_readRef_52 : decode cX12_readRef 52 = .ok (.lcmp, 1) := by decide +kernel
theorem dX12_readRef_53 : decode cX12_readRef 53 = .ok (.ifCond .ge 9, 3) := by decide +kernel
theorem dX12_readRef_56 : decode cX12_readRef 56 = .ok (.aload_n 0, 1) := by decide +kernel
theorem dX12_readRef_57 : decode cX12_readRef 57 = .ok (.bipush 6, 2) := by decide +kernel
theorem dX12_readRef_59 : decode cX12_readRef 59 = .ok (.invokevirtual 147, 3) := by decide +kernel
theorem dX12_readRef_62 : decode cX12_readRef 62 = .ok (.aload_n 0, 1) := by decide +kernel
theorem dX12_readRef_63 : decode cX12_readRef 63 = .ok (.getfield 45, 3) := by decide +kernel
theorem dX12_readRef_66 : decode cX12_readRef 66 = .ok (.aload_n 0, 1) := by decide +kernel
theorem dX12_readRef_67 : decode cX12_readRef 67 = .ok (.getfield 49, 3) := by decide +kernel
theorem dX12_readRef_70 : decode cX12_readRef 70 = .ok (.laload, 1) := by decide +kernel
theorem dX12_readRef_71 : decode cX12_readRef 71 = .ok (.l2i, 1) := by decide +kernel
theorem dX12_readRef_72 : decode cX12_readRef 72 = .ok (.iconst 1, 1) := by decide +kernel
theorem dX12_readRef_73 : decode cX12_readRef 73 = .ok (.isub, 1) := by decide +kernel
theorem dX12_readRef_74 : decode cX12_readRef 74 = .ok (.istore_n 3, 1) := by decide +kernel
theorem dX12_readRef_75 : decode cX12_readRef 75 = .ok (.aload_n 0, 1) := by decide +kernel
theorem dX12_readRef_76 : decode cX12_readRef 76 = .ok (.dup, 1) := by decide +kernel
theorem dX12_readRef_77 : decode cX12_readRef 77 = .ok (.getfield 49, 3) := by decide +kernel
theorem dX12_readRef_80 : decode cX12_readRef 80 = .ok (.aload_n 0, 1) := by decide +kernel
theorem dX12_readRef_81 : decode cX12_readRef 81 = .ok (.getfield 52, 3) := by decide +kernel
theorem dX12_readRef_84 : decode cX12_readRef 84 = .ok (.ifCond .ne 7, 3) := by decide +kernel
theorem dX12_readRef_87 : decode cX12_readRef 87 = .ok (.iconst 1, 1) := by decide +kernel
theorem dX12_readRef_88 : decode cX12_readRef 88 = .ok (.goto 4, 3) := by decide +kernel
theorem dX12_readRef_91 : decode cX12_readRef 91 = .ok (.iconst 0, 1) := by decide +kernel
theorem dX12_readRef_92 : decode cX12_readRef 92 = .ok (.iadd, 1) := by decide +kernel
theorem dX12_readRef_93 : decode cX12_readRef 93 = .ok (.putfield 49, 3) := by decide +kernel
theorem dX12_readRef_96 : decode cX12_readRef 96 = .ok (.iload_n 2, 1) := by decide +kernel
theorem dX12_readRef_97 : decode cX12_readRef 97 = .ok (.aload_n 0, 1) := by decide +kernel
theorem dX12_readRef_98 : decode cX12_readRef 98 = .ok (.bipush 36, 2) := by decide +kernel
theorem dX12_readRef_100 : decode cX12_readRef 100 = .ok (.invokevirtual 183, 3) := by decide +kernel
theorem dX12_readRef_103 : decode cX12_readRef 103 = .ok (.ifCond .eq 7, 3) := by decide +kernel
theorem dX12_readRef_106 : decode cX12_readRef 106 = .ok (.iconst 2, 1) := by decide +kernel
theorem dX12_readRef_107 : decode cX12_readRef 107 = .ok (.goto 4, 3) := by decide +kernel
theorem dX12_readRef_110 : decode cX12_readRef 110 = .ok (.iconst 0, 1) := by decide +kernel
theorem dX12_readRef_111 : decode cX12_readRef 111 = .ok (.iadd, 1) := by decide +kernel
theorem dX12_readRef_112 : decode cX12_readRef 112 = .ok (.istore_n 2, 1) := by decide +kernel
theorem dX12_readRef_113 : decode cX12_readRef 113 = .ok (.aload_n 0, 1) := by decide +kernel
theorem dX12_readRef_114 : decode cX12_readRef 114 = .ok (.getfield 52, 3) := by decide +kernel
theorem dX12_readRef_117 : decode cX12_readRef 117 = .ok (.ifCond .ne 24, 3) := by decide +kernel
theorem dX12_readRef_120 : decode cX12_readRef 120 = .ok (.aload_n 0, 1) := by decide +kernel
theorem dX12_readRef_121 : decode cX12_readRef 121 = .ok (.getfield 32, 3) := by decide +kernel
theorem dX12_readRef_124 : decode cX12_readRef 124 = .ok (.aload_n 0, 1) := by decide +kernel
theorem dX12_readRef_125 : decode cX12_readRef 125 = .ok (.getfield 49, 3) := by decide +kernel
theorem dX12_readRef_128 : decode cX12_readRef 128 = .ok (.iaload, 1) := by decide +kernel
theorem dX12_readRef_129 : decode cX12_readRef 129 = .ok (.iconst 2, 1) := by decide +kernel
theorem dX12_readRef_130 : decode cX12_readRef 130 = .ok (.if_icmp .eq 11, 3) := by decide +kernel
theorem dX12_readRef_133 : decode cX12_readRef 133 = .ok (.aload_n 0, 1) := by decide +kernel
theorem dX12_readRef_134 : decode cX12_readRef 134 = .ok (.iconst 1, 1) := by decide +kernel
theorem dX12_readRef_135 : decode cX12_readRef 135 = .ok (.invokevirtual 147, 3) := by decide +kernel
theorem dX12_readRef_138 : decode cX12_readRef 138 = .ok (.goto 87, 3) := by decide +kernel
theorem dX12_readRef_141 : decode cX12_readRef 141 = .ok (.aload_n 0, 1) := by decide +kernel
theorem dX12_readRef_142 : decode cX12_readRef 142 = .ok (.getfield 52, 3) := by decide +kernel
theorem dX12_readRef_145 : decode cX12_readRef 145 = .ok (.ifCond .ne 41, 3) := by decide +kernel
theorem dX12_readRef_148 : decode cX12_readRef 148 = .ok (.aload_n 0, 1) := by decide +kernel
theorem dX12_readRef_149 : decode cX12_readRef 149 = .ok (.getfield 45, 3) := by decide +kernel
theorem dX12_readRef_152 : decode cX12_readRef 152 = .ok (.aload_n 0, 1) := by decide +kernel
theorem dX12_readRef_153 : decode cX12_readRef 153 = .ok (.getfield 49, 3) := by decide +kernel
theorem dX12_readRef_156 : decode cX12_readRef 156 = .ok (.laload, 1) := by decide +kernel
theorem dX12_readRef_157 : decode cX12_readRef 157 = .ok (.lconst 1, 1) := by decide +kernel
theorem dX12_readRef_158 : decode cX12_readRef 158 = .ok (.lcmp, 1) := by decide +kernel
theorem dX12_readRef_159 : decode cX12_readRef 159 = .ok (.ifCond .lt 19, 3) := by decide +kernel
theorem dX12_readRef_162 : decode cX12_readRef 162 = .ok (.aload_n 0, 1) := by decide +kernel
theorem dX12_readRef_163 : decode cX12_readRef 163 = .ok (.getfield 45, 3) := by decide +kernel
theorem dX12_readRef_166 : decode cX12_readRef 166 = .ok (.aload_n 0, 1) := by decide +kernel
theorem dX12_readRef_167 : decode cX12_readRef 167 = .ok (.getfield 49, 3) := by decide +kernel
theorem dX12_readRef_170 : decode cX12_readRef 170 = .ok (.laload, 1) := by decide +kernel
theorem dX12_readRef_171 : decode cX12_readRef 171 = .ok (.ldc2_w 186, 3) := by decide +kernel
theorem dX12_readRef_174 : decode cX12_readRef 174 = .ok (.lcmp, 1) := by decide +kernel
theorem dX12_readRef_175 : decode cX12_readRef 175 = .ok (.ifCond .le 11, 3) := by decide +kernel
theorem dX12_readRef_178 : decode cX12_readRef 178 = .ok (.aload_n 0, 1) := by decide +kernel
theorem dX12_readRef_179 : decode cX12_readRef 179 = .ok (.iconst 4, 1) := by decide +kernel
theorem dX12_readRef_180 : decode cX12_readRef 180 = .ok (.invokevirtual 147, 3) := by decide +kernel
theorem dX12_readRef_183 : decode cX12_readRef 183 = .ok (.goto 42, 3) := by decide +kernel
theorem dX12_readRef_186 : decode cX12_readRef 186 = .ok (.aload_n 0, 1) := by decide +kernel
theorem dX12_readRef_187 : decode cX12_readRef 187 = .ok (.getfield 52, 3) := by decide +kernel
theorem dX12_readRef_190 : decode cX12_readRef 190 = .ok (.ifCond .ne 35, 3) := by decide +kernel
theorem dX12_readRef_193 : decode cX12_readRef 193 = .ok (.iload_n 1, 1) := by decide +kernel
theorem dX12_readRef_194 : decode cX12_readRef 194 = .ok (.ifCond .lt 31, 3) := by decide +kernel
theorem dX12_readRef_197 : decode cX12_readRef 197 = .ok (.aload_n 0, 1) := by decide +kernel
theorem dX12_readRef_198 : decode cX12_readRef 198 = .ok (.getfield 45, 3) := by decide +kernel
theorem dX12_readRef_201 : decode cX12_readRef 201 = .ok (.aload_n 0, 1) := by decide +kernel
theorem dX12_readRef_202 : decode cX12_readRef 202 = .ok (.getfield 49, 3) := by decide +kernel
theorem dX12_readRef_205 : decode cX12_readRef 205 = .ok (.laload, 1) := by decide +kernel
theorem dX12_readRef_206 : decode cX12_readRef 206 = .ok (.lconst 1, 1) := by decide +kernel
theorem dX12_readRef_207 : decode cX12_readRef 207 = .ok (.lsub, 1) := by decide +kernel
theorem dX12_readRef_208 : decode cX12_readRef 208 = .ok (.aload_n 0, 1) := by decide +kernel
theorem dX12_readRef_209 : decode cX12_readRef 209 = .ok (.getfield 71, 3) := by decide +kernel
theorem dX12_readRef_212 : decode cX12_readRef 212 = .ok (.iload_n 1, 1) := by decide +kernel
theorem dX12_readRef_213 : decode cX12_readRef 213 = .ok (.iaload, 1) := by decide +kernel
theorem dX12_readRef_214 : decode cX12_readRef 214 = .ok (.i2l, 1) := by decide +kernel
theorem dX12_readRef_215 : decode cX12_readRef 215 = .ok (.lcmp, 1) := by decide +kernel
theorem dX12_readRef_216 : decode cX12_readRef 216 = .ok (.ifCond .ge 9, 3) := by decide +kernel
theorem dX12_readRef_219 : decode cX12_readRef 219 = .ok (.aload_n 0, 1) := by decide +kernel
theorem dX12_readRef_220 : decode cX12_readRef 220 = .ok (.bipush 7, 2) := by decide +kernel
theorem dX12_readRef_222 : decode cX12_readRef 222 = .ok (.invokevirtual 147, 3) := by decide +kernel
theorem dX12_readRef_225 : decode cX12_readRef 225 = .ok (.aload_n 0, 1) := by decide +kernel
theorem dX12_readRef_226 : decode cX12_readRef 226 = .ok (.getfield 52, 3) := by decide +kernel
theorem dX12_readRef_229 : decode cX12_readRef 229 = .ok (.ifCond .ne 32, 3) := by decide +kernel
theorem dX12_readRef_232 : decode cX12_readRef 232 = .ok (.aload_n 0, 1) := by decide +kernel
theorem dX12_readRef_233 : decode cX12_readRef 233 = .ok (.iconst 3, 1) := by decide +kernel
theorem dX12_readRef_234 : decode cX12_readRef 234 = .ok (.iload_n 3, 1) := by decide +kernel
theorem dX12_readRef_235 : decode cX12_readRef 235 = .ok (.aload_n 0, 1) := by decide +kernel
theorem dX12_readRef_236 : decode cX12_readRef 236 = .ok (.getfield 45, 3) := by decide +kernel
theorem dX12_readRef_239 : decode cX12_readRef 239 = .ok (.aload_n 0, 1) := by decide +kernel
theorem dX12_readRef_240 : decode cX12_readRef 240 = .ok (.getfield 49, 3) := by decide +kernel
theorem dX12_readRef_243 : decode cX12_readRef 243 = .ok (.laload, 1) := by decide +kernel
theorem dX12_readRef_244 : decode cX12_readRef 244 = .ok (.l2i, 1) := by decide +kernel
theorem dX12_readRef_245 : decode cX12_readRef 245 = .ok (.iconst 1, 1) := by decide +kernel
theorem dX12_readRef_246 : decode cX12_readRef 246 = .ok (.isub, 1) := by decide +kernel
theorem dX12_readRef_247 : decode cX12_readRef 247 = .ok (.iload_n 2, 1) := by decide +kernel
theorem dX12_readRef_248 : decode cX12_readRef 248 = .ok (.invokevirtual 143, 3) := by decide +kernel
theorem dX12_readRef_251 : decode cX12_readRef 251 = .ok (.aload_n 0, 1) := by decide +kernel
theorem dX12_readRef_252 : decode cX12_readRef 252 = .ok (.dup, 1) := by decide +kernel
theorem dX12_readRef_253 : decode cX12_readRef 253 = .ok (.getfield 49, 3) := by decide +kernel
theorem dX12_readRef_256 : decode cX12_readRef 256 = .ok (.iconst 1, 1) := by decide +kernel
theorem dX12_readRef_257 : decode cX12_readRef 257 = .ok (.iadd, 1) := by decide +kernel
theorem dX12_readRef_258 : decode cX12_readRef 258 = .ok (.putfield 49, 3) := by decide +kernel
theorem dX12_readRef_261 : decode cX12_readRef 261 = .ok (.return_, 1) := by decide +kernel
theorem dX12_copyRow_0 : decode cX12_copyRow 0 = .ok (.aload_n 0, 1) := by decide +kernel
theorem dX12_copyRow_1 : decode cX12_copyRow 1 = .ok (.getfield 80, 3) := by decide +kernel
theorem dX12_copyRow_4 : decode cX12_copyRow 4 = .ok (.iload_n 2, 1) := by decide +kernel
theorem dX12_copyRow_5 : decode cX12_copyRow 5 = .ok (.aload_n 0, 1) := by decide +kernel
theorem dX12_copyRow_6 : decode cX12_copyRow 6 = .ok (.getfield 80, 3) := by decide +kernel
theorem dX12_copyRow_9 : decode cX12_copyRow 9 = .ok (.iload_n 1, 1) := by decide +kernel
theorem dX12_copyRow_10 : decode cX12_copyRow 10 = .ok (.iaload, 1) := by decide +kernel
theorem dX12_copyRow_11 : decode cX12_copyRow 11 = .ok (.iastore, 1) := by decide +kernel
theorem dX12_copyRow_12 : decode cX12_copyRow 12 = .ok (.aload_n 0, 1) := by decide +kernel
theorem dX12_copyRow_13 : decode cX12_copyRow 13 = .ok (.getfield 83, 3) := by decide +kernel
theorem dX12_copyRow_16 : decode cX12_copyRow 16 = .ok (.iload_n 2, 1) := by decide +kernel
theorem dX12_copyRow_17 : decode cX12_copyRow 17 = .ok (.aload_n 0, 1) := by decide +kernel
theorem dX12_copyRow_18 : decode cX12_copyRow 18 = .ok (.getfield 83, 3) := by decide +kernel
theorem dX12_copyRow_21 : decode cX12_copyRow 21 = .ok (.iload_n 1, 1) := by decide +kernel
theorem dX12_copyRow_22 : decode cX12_copyRow 22 = .ok (.iaload, 1) := by decide +kernel
theorem dX12_copyRow_23 : decode cX12_copyRow 23 = .ok (.iastore, 1) := by decide +kernel
theorem dX12_copyRow_24 : decode cX12_copyRow 24 = .ok (.aload_n 0, 1) := by decide +kernel
theorem dX12_copyRow_25 : decode cX12_copyRow 25 = .ok (.getfield 77, 3) := by decide +kernel
theorem dX12_copyRow_28 : decode cX12_copyRow 28 = .ok (.iload_n 2, 1) := by decide +kernel
theorem dX12_copyRow_29 : decode cX12_copyRow 29 = .ok (.aload_n 0, 1) := by decide +kernel
theorem dX12_copyRow_30 : decode cX12_copyRow 30 = .ok (.getfield 77, 3) := by decide +kernel
theorem dX12_copyRow_33 : decode cX12_copyRow 33 = .ok (.iload_n 1, 1) := by decide +kernel
theorem dX12_copyRow_34 : decode cX12_copyRow 34 = .ok (.iaload, 1) := by decide +kernel
theorem dX12_copyRow_35 : decode cX12_copyRow 35 = .ok (.iastore, 1) := by decide +kernel
theorem dX12_copyRow_36 : decode cX12_copyRow 36 = .ok (.iconst 0, 1) := by decide +kernel
theorem dX12_copyRow_37 : decode cX12_copyRow 37 = .ok (.istore_n 3, 1) := by decide +kernel
theorem dX12_copyRow_38 : decode cX12_copyRow 38 = .ok (.iload_n 3, 1) := by decide +kernel
theorem dX12_copyRow_39 : decode cX12_copyRow 39 = .ok (.iconst 3, 1) := by decide +kernel
theorem dX12_copyRow_40 : decode cX12_copyRow 40 = .ok (.if_icmp .ge 29, 3) := by decide +kernel
theorem dX12_copyRow_43 : decode cX12_copyRow 43 = .ok (.aload_n 0, 1) := by decide +kernel
theorem dX12_copyRow_44 : decode cX12_copyRow 44 = .ok (.getfield 86, 3) := by decide +kernel
theorem dX12_copyRow_47 : decode cX12_copyRow 47 = .ok (.iconst 3, 1) := by decide +kernel
theorem dX12_copyRow_48 : decode cX12_copyRow 48 = .ok (.iload_n 2, 1) := by decide +kernel
theorem dX12_copyRow_49 : decode cX12_copyRow 49 = .ok (.imul, 1) := by decide +kernel
theorem dX12_copyRow_50 : decode cX12_copyRow 50 = .ok (.iload_n 3, 1) := by decide +kernel
theorem dX12_copyRow_51 : decode cX12_copyRow 51 = .ok (.iadd, 1) := by decide +kernel
theorem dX12_copyRow_52 : decode cX12_copyRow 52 = .ok (.aload_n 0, 1) := by decide +kernel
theorem dX12_copyRow_53 : decode cX12_copyRow 53 = .ok (.getfield 86, 3) := by decide +kernel
theorem dX12_copyRow_56 : decode cX12_copyRow 56 = .ok (.iconst 3, 1) := by decide +kernel
theorem dX12_copyRow_57 : decode cX12_copyRow 57 = .ok (.iload_n 1, 1) := by decide +kernel
theorem dX12_copyRow_58 : decode cX12_copyRow 58 = .ok (.imul, 1) := by decide +kernel
theorem dX12_copyRow_59 : decode cX12_copyRow 59 = .ok (.iload_n 3, 1) := by decide +kernel
theorem dX12_copyRow_60 : decode cX12_copyRow 60 = .ok (.iadd, 1) := by decide +kernel
theorem dX12_copyRow_61 : decode cX12_copyRow 61 = .ok (.iaload, 1) := by decide +kernel
theorem dX12_copyRow_62 : decode cX12_copyRow 62 = .ok (.iastore, 1) := by decide +kernel
theorem dX12_copyRow_63 : decode cX12_copyRow 63 = .ok (.iinc 3 1, 3) := by decide +kernel
theorem dX12_copyRow_66 : decode cX12_copyRow 66 = .ok (.goto (-28), 3) := by decide +kernel
theorem dX12_copyRow_69 : decode cX12_copyRow 69 = .ok (.iconst 0, 1) := by decide +kernel
theorem dX12_copyRow_70 : decode cX12_copyRow 70 = .ok (.istore_n 3, 1) := by decide +kernel
theorem dX12_copyRow_71 : decode cX12_copyRow 71 = .ok (.iload_n 3, 1) := by decide +kernel
theorem dX12_copyRow_72 : decode cX12_copyRow 72 = .ok (.aload_n 0, 1) := by decide +kernel
theorem dX12_copyRow_73 : decode cX12_copyRow 73 = .ok (.getfield 77, 3) := by decide +kernel
theorem dX12_copyRow_76 : decode cX12_copyRow 76 = .ok (.iload_n 1, 1) := by decide +kernel
theorem dX12_copyRow_77 : decode cX12_copyRow 77 = .ok (.iaload, 1) := by decide +kernel
theorem dX12_copyRow_78 : decode cX12_copyRow 78 = .ok (.if_icmp .ge 97, 3) := by decide +kernel
theorem dX12_copyRow_81 : decode cX12_copyRow 81 = .ok (.aload_n 0, 1) := by decide +kernel
theorem dX12_copyRow_82 : decode cX12_copyRow 82 = .ok (.getfield 65, 3) := by decide +kernel
theorem dX12_copyRow_85 : decode cX12_copyRow 85 = .ok (.bipush 120, 2) := by decide +kernel
theorem dX12_copyRow_87 : decode cX12_copyRow 87 = .ok (.iload_n 2, 1) := by decide +kernel
theorem dX12_copyRow_88 : decode cX12_copyRow 88 = .ok (.imul, 1) := by decide +kernel
theorem dX12_copyRow_89 : decode cX12_copyRow 89 = .ok (.iload_n 3, 1) := by decide +kernel
theorem dX12_copyRow_90 : decode cX12_copyRow 90 = .ok (.iadd, 1) := by decide +kernel
theorem dX12_copyRow_91 : decode cX12_copyRow 91 = .ok (.aload_n 0, 1) := by decide +kernel
theorem dX12_copyRow_92 : decode cX12_copyRow 92 = .ok (.getfield 65, 3) := by decide +kernel
theorem dX12_copyRow_95 : decode cX12_copyRow 95 = .ok (.bipush 120, 2) := by decide +kernel
theorem dX12_copyRow_97 : decode cX12_copyRow 97 = .ok (.iload_n 1, 1) := by decide +kernel
theorem dX12_copyRow_98 : decode cX12_copyRow 98 = .ok (.imul, 1) := by decide +kernel
theorem dX12_copyRow_99 : decode cX12_copyRow 99 = .ok (.iload_n 3, 1) := by decide +kernel
theorem dX12_copyRow_100 : decode cX12_copyRow 100 = .ok (.iadd, 1) := by decide +kernel
theorem dX12_copyRow_101 : decode cX12_copyRow 101 = .ok (.iaload, 1) := by decide +kernel
theorem dX12_copyRow_102 : decode cX12_copyRow 102 = .ok (.iastore, 1) := by decide +kernel
theorem dX12_copyRow_103 : decode cX12_copyRow 103 = .ok (.aload_n 0, 1) := by decide +kernel
theorem dX12_copyRow_104 : decode cX12_copyRow 104 = .ok (.getfield 68, 3) := by decide +kernel
theorem dX12_copyRow_107 : decode cX12_copyRow 107 = .ok (.bipush 120, 2) := by decide +kernel
theorem dX12_copyRow_109 : decode cX12_copyRow 109 = .ok (.iload_n 2, 1) := by decide +kernel
theorem dX12_copyRow_110 : decode cX12_copyRow 110 = .ok (.imul, 1) := by decide +kernel
theorem dX12_copyRow_111 : decode cX12_copyRow 111 = .ok (.iload_n 3, 1) := by decide +kernel
theorem dX12_copyRow_112 : decode cX12_copyRow 112 = .ok (.iadd, 1) := by decide +kernel
theorem dX12_copyRow_113 : decode cX12_copyRow 113 = .ok (.aload_n 0, 1) := by decide +kernel
theorem dX12_copyRow_114 : decode cX12_copyRow 114 = .ok (.getfield 68, 3) := by decide +kernel
theorem dX12_copyRow_117 : decode cX12_copyRow 117 = .ok (.bipush 120, 2) := by decide +kernel
theorem dX12_copyRow_119 : decode cX12_copyRow 119 = .ok (.iload_n 1, 1) := by decide +kernel
theorem dX12_copyRow_120 : decode cX12_copyRow 120 = .ok (.imul, 1) := by decide +kernel
theorem dX12_copyRow_121 : decode cX12_copyRow 121 = .ok (.iload_n 3, 1) := by decide +kernel
theorem dX12_copyRow_122 : decode cX12_copyRow 122 = .ok (.iadd, 1) := by decide +kernel
theorem dX12_copyRow_123 : decode cX12_copyRow 123 = .ok (.iaload, 1) := by decide +kernel
theorem dX12_copyRow_124 : decode cX12_copyRow 124 = .ok (.iastore, 1) := by decide +kernel
theorem dX12_copyRow_125 : decode cX12_copyRow 125 = .ok (.aload_n 0, 1) := by decide +kernel
theorem dX12_copyRow_126 : decode cX12_copyRow 126 = .ok (.getfield 71, 3) := by decide +kernel
theorem dX12_copyRow_129 : decode cX12_copyRow 129 = .ok (.bipush 120, 2) := by decide +kernel
theorem dX12_copyRow_131 : decode cX12_copyRow 131 = .ok (.iload_n 2, 1) := by decide +kernel
theorem dX12_copyRow_132 : decode cX12_copyRow 132 = .ok (.imul, 1) := by decide +kernel
theorem dX12_copyRow_133 : decode cX12_copyRow 133 = .ok (.iload_n 3, 1) := by decide +kernel
theorem dX12_copyRow_134 : decode cX12_copyRow 134 = .ok (.iadd, 1) := by decide +kernel
theorem dX12_copyRow_135 : decode cX12_copyRow 135 = .ok (.aload_n 0, 1) := by decide +kernel
theorem dX12_copyRow_136 : decode cX12_copyRow 136 = .ok (.getfield 71, 3) := by decide +kernel
theorem dX12_copyRow_139 : decode cX12_copyRow 139 = .ok (.bipush 120, 2) := by decide +kernel
theorem dX12_copyRow_141 : decode cX12_copyRow 141 = .ok (.iload_n 1, 1) := by decide +kernel
theorem dX12_copyRow_142 : decode cX12_copyRow 142 = .ok (.imul, 1) := by decide +kernel
theorem dX12_copyRow_143 : decode cX12_copyRow 143 = .ok (.iload_n 3, 1) := by decide +kernel
theorem dX12_copyRow_144 : decode cX12_copyRow 144 = .ok (.iadd, 1) := by decide +kernel
theorem dX12_copyRow_145 : decode cX12_copyRow 145 = .ok (.iaload, 1) := by decide +kernel
theorem dX12_copyRow_146 : decode cX12_copyRow 146 = .ok (.iastore, 1) := by decide +kernel
theorem dX12_copyRow_147 : decode cX12_copyRow 147 = .ok (.aload_n 0, 1) := by decide +kernel
theorem dX12_copyRow_148 : decode cX12_copyRow 148 = .ok (.getfield 74, 3) := by decide +kernel
theorem dX12_copyRow_151 : decode cX12_copyRow 151 = .ok (.bipush 120, 2) := by decide +kernel
theorem dX12_copyRow_153 : decode cX12_copyRow 153 = .ok (.iload_n 2, 1) := by decide +kernel
theorem dX12_copyRow_154 : decode cX12_copyRow 154 = .ok (.imul, 1) := by decide +kernel
theorem dX12_copyRow_155 : decode cX12_copyRow 155 = .ok (.iload_n 3, 1) := by decide +kernel
theorem dX12_copyRow_156 : decode cX12_copyRow 156 = .ok (.iadd, 1) := by decide +kernel
theorem dX12_copyRow_157 : decode cX12_copyRow 157 = .ok (.aload_n 0, 1) := by decide +kernel
theorem dX12_copyRow_158 : decode cX12_copyRow 158 = .ok (.getfield 74, 3) := by decide +kernel
theorem dX12_copyRow_161 : decode cX12_copyRow 161 = .ok (.bipush 120, 2) := by decide +kernel
theorem dX12_copyRow_163 : decode cX12_copyRow 163 = .ok (.iload_n 1, 1) := by decide +kernel
theorem dX12_copyRow_164 : decode cX12_copyRow 164 = .ok (.imul, 1) := by decide +kernel
theorem dX12_copyRow_165 : decode cX12_copyRow 165 = .ok (.iload_n 3, 1) := by decide +kernel
theorem dX12_copyRow_166 : decode cX12_copyRow 166 = .ok (.iadd, 1) := by decide +kernel
theorem dX12_copyRow_167 : decode cX12_copyRow 167 = .ok (.iaload, 1) := by decide +kernel
theorem dX12_copyRow_168 : decode cX12_copyRow 168 = .ok (.iastore, 1) := by decide +kernel
theorem dX12_copyRow_169 : decode cX12_copyRow 169 = .ok (.iinc 3 1, 3) := by decide +kernel
theorem dX12_copyRow_172 : decode cX12_copyRow 172 = .ok (.goto (-101), 3) := by decide +kernel
theorem dX12_copyRow_175 : decode cX12_copyRow 175 = .ok (.return_, 1) := by decide +kernel
theorem dX12_clearDraft_0 : decode cX12_clearDraft 0 = .ok (.aload_n 0, 1) := by decide +kernel
theorem dX12_clearDraft_1 : decode cX12_clearDraft 1 = .ok (.getfield 80, 3) := by decide +kernel
theorem dX12_clearDraft_4 : decode cX12_clearDraft 4 = .ok (.sipush 288, 3) := by decide +kernel
theorem dX12_clearDraft_7 : decode cX12_clearDraft 7 = .ok (.iload_n 1, 1) := by decide +kernel
theorem dX12_clearDraft_8 : decode cX12_clearDraft 8 = .ok (.iastore, 1) := by decide +kernel
theorem dX12_clearDraft_9 : decode cX12_clearDraft 9 = .ok (.aload_n 0, 1) := by decide +kernel
theorem dX12_clearDraft_10 : decode cX12_clearDraft 10 = .ok (.getfield 83, 3) := by decide +kernel
theorem dX12_clearDraft_13 : decode cX12_clearDraft 13 = .ok (.sipush 288, 3) := by decide +kernel
theorem dX12_clearDraft_16 : decode cX12_clearDraft 16 = .ok (.iload_n 2, 1) := by decide +kernel
theorem dX12_clearDraft_17 : decode cX12_clearDraft 17 = .ok (.iastore, 1) := by decide +kernel
theorem dX12_clearDraft_18 : decode cX12_clearDraft 18 = .ok (.aload_n 0, 1) := by decide +kernel
theorem dX12_clearDraft_19 : decode cX12_clearDraft 19 = .ok (.getfield 77, 3) := by decide +kernel
theorem dX12_clearDraft_22 : decode cX12_clearDraft 22 = .ok (.sipush 288, 3) := by decide +kernel
theorem dX12_clearDraft_25 : decode cX12_clearDraft 25 = .ok (.iconst 0, 1) := by decide +kernel
theorem dX12_clearDraft_26 : decode cX12_clearDraft 26 = .ok (.iastore, 1) := by decide +kernel
theorem dX12_clearDraft_27 : decode cX12_clearDraft 27 = .ok (.iconst 0, 1) := by decide +kernel
theorem dX12_clearDraft_28 : decode cX12_clearDraft 28 = .ok (.istore_n 3, 1) := by decide +kernel
theorem dX12_clearDraft_29 : decode cX12_clearDraft 29 = .ok (.iload_n 3, 1) := by decide +kernel
theorem dX12_clearDraft_30 : decode cX12_clearDraft 30 = .ok (.iconst 3, 1) := by decide +kernel
theorem dX12_clearDraft_31 : decode cX12_clearDraft 31 = .ok (.if_icmp .ge 20, 3) := by decide +kernel
theorem dX12_clearDraft_34 : decode cX12_clearDraft 34 = .ok (.aload_n 0, 1) := by decide +kernel
theorem dX12_clearDraft_35 : decode cX12_clearDraft 35 = .ok (.getfield 86, 3) := by decide +kernel
theorem dX12_clearDraft_38 : decode cX12_clearDraft 38 = .ok (.sipush 864, 3) := by decide +kernel
theorem dX12_clearDraft_41 : decode cX12_clearDraft 41 = .ok (.iload_n 3, 1) := by decide +kernel
theorem dX12_clearDraft_42 : decode cX12_clearDraft 42 = .ok (.iadd, 1) := by decide +kernel
theorem dX12_clearDraft_43 : decode cX12_clearDraft 43 = .ok (.iconst 0, 1) := by decide +kernel
theorem dX12_clearDraft_44 : decode cX12_clearDraft 44 = .ok (.iastore, 1) := by decide +kernel
theorem dX12_clearDraft_45 : decode cX12_clearDraft 45 = .ok (.iinc 3 1, 3) := by decide +kernel
theorem dX12_clearDraft_48 : decode cX12_clearDraft 48 = .ok (.goto (-19), 3) := by decide +kernel
theorem dX12_clearDraft_51 : decode cX12_clearDraft 51 = .ok (.return_, 1) := by decide +kernel
theorem dX12_puts_0 : decode cX12_puts 0 = .ok (.aload_n 0, 1) := by decide +kernel
theorem dX12_puts_1 : decode cX12_puts 1 = .ok (.getfield 188, 3) := by decide +kernel
theorem dX12_puts_4 : decode cX12_puts 4 = .ok (.bipush 20, 2) := by decide +kernel
theorem dX12_puts_6 : decode cX12_puts 6 = .ok (.if_icmp .ne 55, 3) := by decide +kernel
theorem dX12_puts_9 : decode cX12_puts 9 = .ok (.iconst 1, 1) := by decide +kernel
theorem dX12_puts_10 : decode cX12_puts 10 = .ok (.istore_n 2, 1) := by decide +kernel
theorem dX12_puts_11 : decode cX12_puts 11 = .ok (.iload_n 2, 1) := by decide +kernel
theorem dX12_puts_12 : decode cX12_puts 12 = .ok (.bipush 20, 2) := by decide +kernel
theorem dX12_puts_14 : decode cX12_puts 14 = .ok (.if_icmp .ge 37, 3) := by decide +kernel
theorem dX12_puts_17 : decode cX12_puts 17 = .ok (.aload_n 0, 1) := by decide +kernel
theorem dX12_puts_18 : decode cX12_puts 18 = .ok (.sipush 289, 3) := by decide +kernel
theorem dX12_puts_21 : decode cX12_puts 21 = .ok (.iload_n 2, 1) := by decide +kernel
theorem dX12_puts_22 : decode cX12_puts 22 = .ok (.iadd, 1) := by decide +kernel
theorem dX12_puts_23 : decode cX12_puts 23 = .ok (.sipush 288, 3) := by decide +kernel
theorem dX12_puts_26 : decode cX12_puts 26 = .ok (.iload_n 2, 1) := by decide +kernel
theorem dX12_puts_27 : decode cX12_puts 27 = .ok (.iadd, 1) := by decide +kernel
theorem dX12_puts_28 : decode cX12_puts 28 = .ok (.invokevirtual 191, 3) := by decide +kernel
theorem dX12_puts_31 : decode cX12_puts 31 = .ok (.aload_n 0, 1) := by decide +kernel
theorem dX12_puts_32 : decode cX12_puts 32 = .ok (.getfield 93, 3) := by decide +kernel
theorem dX12_puts_35 : decode cX12_puts 35 = .ok (.iload_n 2, 1) := by decide +kernel
theorem dX12_puts_36 : decode cX12_puts 36 = .ok (.iconst 1, 1) := by decide +kernel
theorem dX12_puts_37 : decode cX12_puts 37 = .ok (.isub, 1) := by decide +kernel
theorem dX12_puts_38 : decode cX12_puts 38 = .ok (.aload_n 0, 1) := by decide +kernel
theorem dX12_puts_39 : decode cX12_puts 39 = .ok (.getfield 93, 3) := by decide +kernel
theorem dX12_puts_42 : decode cX12_puts 42 = .ok (.iload_n 2, 1) := by decide +kernel
theorem dX12_puts_43 : decode cX12_puts 43 = .ok (.iaload, 1) := by decide +kernel
theorem dX12_puts_44 : decode cX12_puts 44 = .ok (.iastore, 1) := by decide +kernel
theorem dX12_puts_45 : decode cX12_puts 45 = .ok (.iinc 2 1, 3) := by decide +kernel
theorem dX12_puts_48 : decode cX12_puts 48 = .ok (.goto (-37), 3) := by decide +kernel
theorem dX12_puts_51 : decode cX12_puts 51 = .ok (.aload_n 0, 1) := by decide +kernel
theorem dX12_puts_52 : decode cX12_puts 52 = .ok (.dup, 1) := by decide +kernel
theorem dX12_puts_53 : decode cX12_puts 53 = .ok (.getfield 188, 3) := by decide +kernel
theorem dX12_puts_56 : decode cX12_puts 56 = .ok (.iconst 1, 1) := by decide +kernel
theorem dX12_puts_57 : decode cX12_puts 57 = .ok (.isub, 1) := by decide +kernel
theorem dX12_puts_58 : decode cX12_puts 58 = .ok (.putfield 188, 3) := by decide +kernel
theorem dX12_puts_61 : decode cX12_puts 61 = .ok (.aload_n 0, 1) := by decide +kernel
theorem dX12_puts_62 : decode cX12_puts 62 = .ok (.iload_n 1, 1) := by decide +kernel
theorem dX12_puts_63 : decode cX12_puts 63 = .ok (.sipush 289, 3) := by decide +kernel
theorem dX12_puts_66 : decode cX12_puts 66 = .ok (.aload_n 0, 1) := by decide +kernel
theorem dX12_puts_67 : decode cX12_puts 67 = .ok (.getfield 188, 3) := by decide +kernel
theorem dX12_puts_70 : decode cX12_puts 70 = .ok (.iadd, 1) := by decide +kernel
theorem dX12_puts_71 : decode cX12_puts 71 = .ok (.invokevirtual 191, 3) := by decide +kernel
theorem dX12_puts_74 : decode cX12_puts 74 = .ok (.aload_n 0, 1) := by decide +kernel
theorem dX12_puts_75 : decode cX12_puts 75 = .ok (.getfield 93, 3) := by decide +kernel
theorem dX12_puts_78 : decode cX12_puts 78 = .ok (.aload_n 0, 1) := by decide +kernel
theorem dX12_puts_79 : decode cX12_puts 79 = .ok (.getfield 188, 3) := by decide +kernel
theorem dX12_puts_82 : decode cX12_puts 82 = .ok (.iload_n 1, 1) := by decide +kernel
theorem dX12_puts_83 : decode cX12_puts 83 = .ok (.iastore, 1) := by decide +kernel
theorem dX12_puts_84 : decode cX12_puts 84 = .ok (.aload_n 0, 1) := by decide +kernel
theorem dX12_puts_85 : decode cX12_puts 85 = .ok (.dup, 1) := by decide +kernel
theorem dX12_puts_86 : decode cX12_puts 86 = .ok (.getfield 188, 3) := by decide +kernel
theorem dX12_puts_89 : decode cX12_puts 89 = .ok (.iconst 1, 1) := by decide +kernel
theorem dX12_puts_90 : decode cX12_puts 90 = .ok (.iadd, 1) := by decide +kernel
theorem dX12_puts_91 : decode cX12_puts 91 = .ok (.putfield 188, 3) := by decide +kernel
theorem dX12_puts_94 : decode cX12_puts 94 = .ok (.aload_n 0, 1) := by decide +kernel
theorem dX12_puts_95 : decode cX12_puts 95 = .ok (.sipush 288, 3) := by decide +kernel
theorem dX12_puts_98 : decode cX12_puts 98 = .ok (.iload_n 1, 1) := by decide +kernel
theorem dX12_puts_99 : decode cX12_puts 99 = .ok (.invokevirtual 191, 3) := by decide +kernel
theorem dX12_puts_102 : decode cX12_puts 102 = .ok (.aload_n 0, 1) := by decide +kernel
theorem dX12_puts_103 : decode cX12_puts 103 = .ok (.invokevirtual 195, 3) := by decide +kernel
theorem dX12_puts_106 : decode cX12_puts 106 = .ok (.return_, 1) := by decide +kernel
theorem dX12_isPlace_0 : decode cX12_isPlace 0 = .ok (.iload_n 0, 1) := by decide +kernel
theorem dX12_isPlace_1 : decode cX12_isPlace 1 = .ok (.ifCond .lt 14, 3) := by decide +kernel
theorem dX12_isPlace_4 : decode cX12_isPlace 4 = .ok (.iload_n 0, 1) := by decide +kernel
theorem dX12_isPlace_5 : decode cX12_isPlace 5 = .ok (.sipush 288, 3) := by decide +kernel
theorem dX12_isPlace_8 : decode cX12_isPlace 8 = .ok (.if_icmp .ge 7, 3) := by decide +kernel
theorem dX12_isPlace_11 : decode cX12_isPlace 11 = .ok (.iconst 1, 1) := by decide +kernel
theorem dX12_isPlace_12 : decode cX12_isPlace 12 = .ok (.goto 4, 3) := by decide +kernel
theorem dX12_isPlace_15 : decode cX12_isPlace 15 = .ok (.iconst 0, 1) := by decide +kernel
theorem dX12_isPlace_16 : decode cX12_isPlace 16 = .ok (.ireturn, 1) := by decide +kernel
theorem dX12_formula_0 : decode cX12_formula 0 = .ok (.aload_n 0, 1) := by decide +kernel
theorem dX12_formula_1 : decode cX12_formula 1 = .ok (.iconst 0, 1) := by decide +kernel
theorem dX12_formula_2 : decode cX12_formula 2 = .ok (.putfield 1, 3) := by decide +kernel
theorem dX12_formula_5 : decode cX12_formula 5 = .ok (.iload_n 1, 1) := by decide +kernel
theorem dX12_formula_6 : decode cX12_formula 6 = .ok (.invokestatic 198, 3) := by decide +kernel
theorem dX12_formula_9 : decode cX12_formula 9 = .ok (.ifCond .ne 10, 3) := by decide +kernel
theorem dX12_formula_12 : decode cX12_formula 12 = .ok (.aload_n 0, 1) := by decide +kernel
theorem dX12_formula_13 : decode cX12_formula 13 = .ok (.iconst 0, 1) := by decide +kernel
theorem dX12_formula_14 : decode cX12_formula 14 = .ok (.putfield 11, 3) := by decide +kernel
theorem dX12_formula_17 : decode cX12_formula 17 = .ok (.iconst (-1), 1) := by decide +kernel
theorem dX12_formula_18 : decode cX12_formula 18 = .ok (.ireturn, 1) := by decide +kernel
theorem dX12_formula_19 : decode cX12_formula 19 = .ok (.aload_n 0, 1) := by decide +kernel
theorem dX12_formula_20 : decode cX12_formula 20 = .ok (.invokevirtual 201, 3) := by decide +kernel
theorem dX12_formula_23 : decode cX12_formula 23 = .ok (.aload_n 0, 1) := by decide +kernel
theorem dX12_formula_24 : decode cX12_formula 24 = .ok (.iconst 2, 1) := by decide +kernel
theorem dX12_formula_25 : decode cX12_formula 25 = .ok (.iconst 0, 1) := by decide +kernel
theorem dX12_formula_26 : decode cX12_formula 26 = .ok (.invokevirtual 204, 3) := by decide +kernel
theorem dX12_formula_29 : decode cX12_formula 29 = .ok (.aload_n 0, 1) := by decide +kernel
theorem dX12_formula_30 : decode cX12_formula 30 = .ok (.iconst 0, 1) := by decide +kernel
theorem dX12_formula_31 : decode cX12_formula 31 = .ok (.putfield 174, 3) := by decide +kernel
theorem dX12_formula_34 : decode cX12_formula 34 = .ok (.aload_n 0, 1) := by decide +kernel
theorem dX12_formula_35 : decode cX12_formula 35 = .ok (.invokevirtual 180, 3) := by decide +kernel
theorem dX12_formula_38 : decode cX12_formula 38 = .ok (.aload_n 0, 1) := by decide +kernel
theorem dX12_formula_39 : decode cX12_formula 39 = .ok (.getfield 52, 3) := by decide +kernel
theorem dX12_formula_42 : decode cX12_formula 42 = .ok (.ifCond .ne 20, 3) := by decide +kernel
theorem dX12_formula_45 : decode cX12_formula 45 = .ok (.aload_n 0, 1) := by decide +kernel
theorem dX12_formula_46 : decode cX12_formula 46 = .ok (.getfield 32, 3) := by decide +kernel
theorem dX12_formula_49 : decode cX12_formula 49 = .ok (.aload_n 0, 1) := by decide +kernel
theorem dX12_formula_50 : decode cX12_formula 50 = .ok (.getfield 49, 3) := by decide +kernel
theorem dX12_formula_53 : decode cX12_formula 53 = .ok (.iaload, 1) := by decide +kernel
theorem dX12_formula_54 : decode cX12_formula 54 = .ok (.ifCond .eq 8, 3) := by decide +kernel
theorem dX12_formula_57 : decode cX12_formula 57 = .ok (.aload_n 0, 1) := by decide +kernel
theorem dX12_formula_58 : decode cX12_formula 58 = .ok (.iconst 1, 1) := by decide +kernel
theorem dX12_formula_59 : decode cX12_formula 59 = .ok (.invokevirtual 147, 3) := by decide +kernel
theorem dX12_formula_62 : decode cX12_formula 62 = .ok (.aload_n 0, 1) := by decide +kernel
theorem dX12_formula_63 : decode cX12_formula 63 = .ok (.getfield 52, 3) := by decide +kernel
theorem dX12_formula_66 : decode cX12_formula 66 = .ok (.ifCond .ne 8, 3) := by decide +kernel
theorem dX12_formula_69 : decode cX12_formula 69 = .ok (.aload_n 0, 1) := by decide +kernel
theorem dX12_formula_70 : decode cX12_formula 70 = .ok (.iload_n 1, 1) := by decide +kernel
theorem dX12_formula_71 : decode cX12_formula 71 = .ok (.invokevirtual 207, 3) := by decide +kernel
theorem dX12_formula_74 : decode cX12_formula 74 = .ok (.aload_n 0, 1) := by decide +kernel
theorem dX12_formula_75 : decode cX12_formula 75 = .ok (.getfield 52, 3) := by decide +kernel
theorem dX12_formula_78 : decode cX12_formula 78 = .ok (.ireturn, 1) := by decide +kernel
theorem dX12_number_0 : decode cX12_number 0 = .ok (.aload_n 0, 1) := by decide +kernel
theorem dX12_number_1 : decode cX12_number 1 = .ok (.iconst 0, 1) := by decide +kernel
theorem dX12_number_2 : decode cX12_number 2 = .ok (.putfield 1, 3) := by decide +kernel
theorem dX12_number_5 : decode cX12_number 5 = .ok (.iload_n 1, 1) := by decide +kernel
theorem dX12_number_6 : decode cX12_number 6 = .ok (.invokestatic 198, 3) := by decide +kernel
theorem dX12_number_9 : decode cX12_number 9 = .ok (.ifCond .ne 5, 3) := by decide +kernel
theorem dX12_number_12 : decode cX12_number 12 = .ok (.iconst 0, 1) := by decide +kernel
theorem dX12_number_13 : decode cX12_number 13 = .ok (.ireturn, 1) := by decide +kernel
theorem dX12_number_14 : decode cX12_number 14 = .ok (.aload_n 0, 1) := by decide +kernel
theorem dX12_number_15 : decode cX12_number 15 = .ok (.iconst 1, 1) := by decide +kernel
theorem dX12_number_16 : decode cX12_number 16 = .ok (.iload_n 2, 1) := by decide +kernel
theorem dX12_number_17 : decode cX12_number 17 = .ok (.invokevirtual 204, 3) := by decide +kernel
theorem dX12_number_20 : decode cX12_number 20 = .ok (.aload_n 0, 1) := by decide +kernel
theorem dX12_number_21 : decode cX12_number 21 = .ok (.iload_n 1, 1) := by decide +kernel
theorem dX12_number_22 : decode cX12_number 22 = .ok (.invokevirtual 207, 3) := by decide +kernel
theorem dX12_number_25 : decode cX12_number 25 = .ok (.iconst 1, 1) := by decide +kernel
theorem dX12_number_26 : decode cX12_number 26 = .ok (.ireturn, 1) := by decide +kernel
theorem dX12_empty_0 : decode cX12_empty 0 = .ok (.aload_n 0, 1) := by decide +kernel
theorem dX12_empty_1 : decode cX12_empty 1 = .ok (.iconst 0, 1) := by decide +kernel
theorem dX12_empty_2 : decode cX12_empty 2 = .ok (.putfield 1, 3) := by decide +kernel
theorem dX12_empty_5 : decode cX12_empty 5 = .ok (.iload_n 1, 1) := by decide +kernel
theorem dX12_empty_6 : decode cX12_empty 6 = .ok (.invokestatic 198, 3) := by decide +kernel
theorem dX12_empty_9 : decode cX12_empty 9 = .ok (.ifCond .ne 5, 3) := by decide +kernel
theorem dX12_empty_12 : decode cX12_empty 12 = .ok (.iconst 0, 1) := by decide +kernel
theorem dX12_empty_13 : decode cX12_empty 13 = .ok (.ireturn, 1) := by decide +kernel
theorem dX12_empty_14 : decode cX12_empty 14 = .ok (.aload_n 0, 1) := by decide +kernel
theorem dX12_empty_15 : decode cX12_empty 15 = .ok (.iconst 0, 1) := by decide +kernel
theorem dX12_empty_16 : decode cX12_empty 16 = .ok (.iconst 0, 1) := by decide +kernel
theorem dX12_empty_17 : decode cX12_empty 17 = .ok (.invokevirtual 204, 3) := by decide +kernel
theorem dX12_empty_20 : decode cX12_empty 20 = .ok (.aload_n 0, 1) := by decide +kernel
theorem dX12_empty_21 : decode cX12_empty 21 = .ok (.iload_n 1, 1) := by decide +kernel
theorem dX12_empty_22 : decode cX12_empty 22 = .ok (.invokevirtual 207, 3) := by decide +kernel
theorem dX12_empty_25 : decode cX12_empty 25 = .ok (.iconst 1, 1) := by decide +kernel
theorem dX12_empty_26 : decode cX12_empty 26 = .ok (.ireturn, 1) := by decide +kernel
theorem dX12_makesCopy_0 : decode cX12_makesCopy 0 = .ok (.aload_n 0, 1) := by decide +kernel
theorem dX12_makesCopy_1 : decode cX12_makesCopy 1 = .ok (.iload_n 1, 1) := by decide +kernel
theorem dX12_makesCopy_2 : decode cX12_makesCopy 2 = .ok (.sipush 288, 3) := by decide +kernel
theorem dX12_makesCopy_5 : decode cX12_makesCopy 5 = .ok (.invokevirtual 191, 3) := by decide +kernel
theorem dX12_makesCopy_8 : decode cX12_makesCopy 8 = .ok (.iconst 0, 1) := by decide +kernel
theorem dX12_makesCopy_9 : decode cX12_makesCopy 9 = .ok (.istore_n 3, 1) := by decide +kernel
theorem dX12_makesCopy_10 : decode cX12_makesCopy 10 = .ok (.iload_n 3, 1) := by decide +kernel
theorem dX12_makesCopy_11 : decode cX12_makesCopy 11 = .ok (.iconst 3, 1) := by decide +kernel
theorem dX12_makesCopy_12 : decode cX12_makesCopy 12 = .ok (.if_icmp .ge 20, 3) := by decide +kernel
theorem dX12_makesCopy_15 : decode cX12_makesCopy 15 = .ok (.aload_n 0, 1) := by decide +kernel
theorem dX12_makesCopy_16 : decode cX12_makesCopy 16 = .ok (.getfield 86, 3) := by decide +kernel
theorem dX12_makesCopy_19 : decode cX12_makesCopy 19 = .ok (.sipush 864, 3) := by decide +kernel
theorem dX12_makesCopy_22 : decode cX12_makesCopy 22 = .ok (.iload_n 3, 1) := by decide +kernel
theorem dX12_makesCopy_23 : decode cX12_makesCopy 23 = .ok (.iadd, 1) := by decide +kernel
theorem dX12_makesCopy_24 : decode cX12_makesCopy 24 = .ok (.iconst 0, 1) := by decide +kernel
theorem dX12_makesCopy_25 : decode cX12_makesCopy 25 = .ok (.iastore, 1) := by decide +kernel
theorem dX12_makesCopy_26 : decode cX12_makesCopy 26 = .ok (.iinc 3 1, 3) := by decide +kernel
theorem dX12_makesCopy_29 : decode cX12_makesCopy 29 = .ok (.goto (-19), 3) := by decide +kernel
theorem dX12_makesCopy_32 : decode cX12_makesCopy 32 = .ok (.iload_n 2, 1) := by decide +kernel
theorem dX12_makesCopy_33 : decode cX12_makesCopy 33 = .ok (.bipush 12, 2) := by decide +kernel
theorem dX12_makesCopy_35 : decode cX12_makesCopy 35 = .ok (.irem, 1) := by decide +kernel
theorem dX12_makesCopy_36 : decode cX12_makesCopy 36 = .ok (.iload_n 1, 1) := by decide +kernel
theorem dX12_makesCopy_37 : decode cX12_makesCopy 37 = .ok (.bipush 12, 2) := by decide +kernel
theorem dX12_makesCopy_39 : decode cX12_makesCopy 39 = .ok (.irem, 1) := by decide +kernel
theorem dX12_makesCopy_40 : decode cX12_makesCopy 40 = .ok (.isub, 1) := by decide +kernel
theorem dX12_makesCopy_41 : decode cX12_makesCopy 41 = .ok (.istore_n 3, 1) := by decide +kernel
theorem dX12_makesCopy_42 : decode cX12_makesCopy 42 = .ok (.iload_n 2, 1) := by decide +kernel
theorem dX12_makesCopy_43 : decode cX12_makesCopy 43 = .ok (.bipush 12, 2) := by decide +kernel
theorem dX12_makesCopy_45 : decode cX12_makesCopy 45 = .ok (.idiv, 1) := by decide +kernel
theorem dX12_makesCopy_46 : decode cX12_makesCopy 46 = .ok (.iload_n 1, 1) := by decide +kernel
theorem dX12_makesCopy_47 : decode cX12_makesCopy 47 = .ok (.bipush 12, 2) := by decide +kernel
theorem dX12_makesCopy_49 : decode cX12_makesCopy 49 = .ok (.idiv, 1) := by decide +kernel
theorem dX12_makesCopy_50 : decode cX12_makesCopy 50 = .ok (.isub, 1) := by decide +kernel
theorem dX12_makesCopy_51 : decode cX12_makesCopy 51 = .ok (.istore 4, 2) := by decide +kernel
theorem dX12_makesCopy_53 : decode cX12_makesCopy 53 = .ok (.iconst 1, 1) := by decide +kernel
theorem dX12_makesCopy_54 : decode cX12_makesCopy 54 = .ok (.istore 5, 2) := by decide +kernel
theorem dX12_makesCopy_56 : decode cX12_makesCopy 56 = .ok (.iconst 0, 1) := by decide +kernel
theorem dX12_makesCopy_57 : decode cX12_makesCopy 57 = .ok (.istore 6, 2) := by decide +kernel
theorem dX12_makesCopy_59 : decode cX12_makesCopy 59 = .ok (.iload 6, 2) := by decide +kernel
theorem dX12_makesCopy_61 : decode cX12_makesCopy 61 = .ok (.aload_n 0, 1) := by decide +kernel
theorem dX12_makesCopy_62 : decode cX12_makesCopy 62 = .ok (.getfield 77, 3) := by decide +kernel
theorem dX12_makesCopy_65 : decode cX12_makesCopy 65 = .ok (.sipush 288, 3) := by decide +kernel
theorem dX12_makesCopy_68 : decode cX12_makesCopy 68 = .ok (.iaload, 1) := by decide +kernel
theorem dX12_makesCopy_69 : decode cX12_makesCopy 69 = .ok (.if_icmp .ge 140, 3) := by decide +kernel
theorem dX12_makesCopy_72 : decode cX12_makesCopy 72 = .ok (.ldc 142, 2) := by decide +kernel
theorem dX12_makesCopy_74 : decode cX12_makesCopy 74 = .ok (.iload 6, 2) := by decide +kernel
theorem dX12_makesCopy_76 : decode cX12_makesCopy 76 = .ok (.iadd, 1) := by decide +kernel
theorem dX12_makesCopy_77 : decode cX12_makesCopy 77 = .ok (.istore 7, 2) := by decide +kernel
theorem dX12_makesCopy_79 : decode cX12_makesCopy 79 = .ok (.aload_n 0, 1) := by decide +kernel
theorem dX12_makesCopy_80 : decode cX12_makesCopy 80 = .ok (.getfield 65, 3) := by decide +kernel
theorem dX12_makesCopy_83 : decode cX12_makesCopy 83 = .ok (.iload 7, 2) := by decide +kernel
theorem dX12_makesCopy_85 : decode cX12_makesCopy 85 = .ok (.iaload, 1) := by decide +kernel
theorem dX12_makesCopy_86 : decode cX12_makesCopy 86 = .ok (.iconst 3, 1) := by decide +kernel
theorem dX12_makesCopy_87 : decode cX12_makesCopy 87 = .ok (.if_icmp .ne 116, 3) := by decide +kernel
theorem dX12_makesCopy_90 : decode cX12_makesCopy 90 = .ok (.aload_n 0, 1) := by decide +kernel
theorem dX12_makesCopy_91 : decode cX12_makesCopy 91 = .ok (.getfield 68, 3) := by decide +kernel
theorem dX12_makesCopy_94 : decode cX12_makesCopy 94 = .ok (.iload 7, 2) := by decide +kernel
theorem dX12_makesCopy_96 : decode cX12_makesCopy 96 = .ok (.dup2, 1) := by decide +kernel
theorem dX12_makesCopy_97 : decode cX12_makesCopy 97 = .ok (.iaload, 1) := by decide +kernel
theorem dX12_makesCopy_98 : decode cX12_makesCopy 98 = .ok (.aload_n 0, 1) := by decide +kernel
theorem dX12_makesCopy_99 : decode cX12_makesCopy 99 = .ok (.getfield 74, 3) := by decide +kernel
theorem dX12_makesCopy_102 : decode cX12_makesCopy 102 = .ok (.iload 7, 2) := by decide +kernel
theorem dX12_makesCopy_104 : decode cX12_makesCopy 104 = .ok (.iaload, 1) := by decide +kernel
theorem dX12_makesCopy_105 : decode cX12_makesCopy 105 = .ok (.iconst 1, 1) := by decide +kernel
theorem dX12_makesCopy_106 : decode cX12_makesCopy 106 = .ok (.iand, 1) := by decide +kernel
theorem dX12_makesCopy_107 : decode cX12_makesCopy 107 = .ok (.iconst 1, 1) := by decide +kernel
theorem dX12_makesCopy_108 : decode cX12_makesCopy 108 = .ok (.if_icmp .ne 7, 3) := by decide +kernel
theorem dX12_makesCopy_111 : decode cX12_makesCopy 111 = .ok (.iconst 0, 1) := by decide +kernel
theorem dX12_makesCopy_112 : decode cX12_makesCopy 112 = .ok (.goto 4, 3) := by decide +kernel
theorem dX12_makesCopy_115 : decode cX12_makesCopy 115 = .ok (.iload_n 3, 1) := by decide +kernel
theorem dX12_makesCopy_116 : decode cX12_makesCopy 116 = .ok (.iadd, 1) := by decide +kernel
theorem dX12_makesCopy_117 : decode cX12_makesCopy 117 = .ok (.iastore, 1) := by decide +kernel
theorem dX12_makesCopy_118 : decode cX12_makesCopy 118 = .ok (.aload_n 0, 1) := by decide +kernel
theorem dX12_makesCopy_119 : decode cX12_makesCopy 119 = .ok (.getfield 71, 3) := by decide +kernel
theorem dX12_makesCopy_122 : decode cX12_makesCopy 122 = .ok (.iload 7, 2) := by decide +kernel
theorem dX12_makesCopy_124 : decode cX12_makesCopy 124 = .ok (.dup2, 1) := by decide +kernel
theorem dX12_makesCopy_125 : decode cX12_makesCopy 125 = .ok (.iaload, 1) := by decide +kernel
theorem dX12_makesCopy_126 : decode cX12_makesCopy 126 = .ok (.aload_n 0, 1) := by decide +kernel
theorem dX12_makesCopy_127 : decode cX12_makesCopy 127 = .ok (.getfield 74, 3) := by decide +kernel
theorem dX12_makesCopy_130 : decode cX12_makesCopy 130 = .ok (.iload 7, 2) := by decide +kernel
theorem dX12_makesCopy_132 : decode cX12_makesCopy 132 = .ok (.iaload, 1) := by decide +kernel
theorem dX12_makesCopy_133 : decode cX12_makesCopy 133 = .ok (.iconst 2, 1) := by decide +kernel
theorem dX12_makesCopy_134 : decode cX12_makesCopy 134 = .ok (.iand, 1) := by decide +kernel
theorem dX12_makesCopy_135 : decode cX12_makesCopy 135 = .ok (.iconst 2, 1) := by decide +kernel
theorem dX12_makesCopy_136 : decode cX12_makesCopy 136 = .ok (.if_icmp .ne 7, 3) := by decide +kernel
theorem dX12_makesCopy_139 : decode cX12_makesCopy 139 = .ok (.iconst 0, 1) := by decide +kernel
theorem dX12_makesCopy_140 : decode cX12_makesCopy 140 = .ok (.goto 5, 3) := by decide +kernel
theorem dX12_makesCopy_143 : decode cX12_makesCopy 143 = .ok (.iload 4, 2) := by decide +kernel
theorem dX12_makesCopy_145 : decode cX12_makesCopy 145 = .ok (.iadd, 1) := by decide +kernel
theorem dX12_makesCopy_146 : decode cX12_makesCopy 146 = .ok (.iastore, 1) := by decide +kernel
theorem dX12_makesCopy_147 : decode cX12_makesCopy 147 = .ok (.iload 5, 2) := by decide +kernel
theorem dX12_makesCopy_149 : decode cX12_makesCopy 149 = .ok (.ifCond .eq 51, 3) := by decide +kernel
theorem dX12_makesCopy_152 : decode cX12_makesCopy 152 = .ok (.aload_n 0, 1) := by decide +kernel
theorem dX12_makesCopy_153 : decode cX12_makesCopy 153 = .ok (.getfield 68, 3) := by decide +kernel
theorem dX12_makesCopy_156 : decode cX12_makesCopy 156 = .ok (.iload 7, 2) := by decide +kernel
theorem dX12_makesCopy_158 : decode cX12_makesCopy 158 = .ok (.iaload, 1) := by decide +kernel
theorem dX12_makesCopy_159 : decode cX12_makesCopy 159 = .ok (.ifCond .lt 41, 3) := by decide +kernel
theorem dX12_makesCopy_162 : decode cX12_makesCopy 162 = .ok (.aload_n 0, 1) := by decide +kernel
theorem dX12_makesCopy_163 : decode cX12_makesCopy 163 = .ok (.getfield 68, 3) := by decide +kernel
theorem dX12_makesCopy_166 : decode cX12_makesCopy 166 = .ok (.iload 7, 2) := by decide +kernel
theorem dX12_makesCopy_168 : decode cX12_makesCopy 168 = .ok (.iaload, 1) := by decide +kernel
theorem dX12_makesCopy_169 : decode cX12_makesCopy 169 = .ok (.bipush 12, 2) := by decide +kernel
theorem dX12_makesCopy_171 : decode cX12_makesCopy 171 = .ok (.if_icmp .ge 29, 3) := by decide +kernel
theorem dX12_makesCopy_174 : decode cX12_makesCopy 174 = .ok (.aload_n 0, 1) := by decide +kernel
theorem dX12_makesCopy_175 : decode cX12_makesCopy 175 = .ok (.getfield 71, 3) := by decide +kernel
theorem dX12_makesCopy_178 : decode cX12_makesCopy 178 = .ok (.iload 7, 2) := by decide +kernel
theorem dX12_makesCopy_180 : decode cX12_makesCopy 180 = .ok (.iaload, 1) := by decide +kernel
theorem dX12_makesCopy_181 : decode cX12_makesCopy 181 = .ok (.ifCond .lt 19, 3) := by decide +kernel
theorem dX12_makesCopy_184 : decode cX12_makesCopy 184 = .ok (.aload_n 0, 1) := by decide +kernel
theorem dX12_makesCopy_185 : decode cX12_makesCopy 185 = .ok (.getfield 71, 3) := by decide +kernel
theorem dX12_makesCopy_188 : decode cX12_makesCopy 188 = .ok (.iload 7, 2) := by decide +kernel
theorem dX12_makesCopy_190 : decode cX12_makesCopy 190 = .ok (.iaload, 1) := by decide +kernel
theorem dX12_makesCopy_191 : decode cX12_makesCopy 191 = .ok (.bipush 24, 2) := by decide +kernel
theorem dX12_makesCopy_193 : decode cX12_makesCopy 193 = .ok (.if_icmp .ge 7, 3) := by decide +kernel
theorem dX12_makesCopy_196 : decode cX12_makesCopy 196 = .ok (.iconst 1, 1) := by decide +kernel
theorem dX12_makesCopy_197 : decode cX12_makesCopy 197 = .ok (.goto 4, 3) := by decide +kernel
theorem dX12_makesCopy_200 : decode cX12_makesCopy 200 = .ok (.iconst 0, 1) := by decide +kernel
theorem dX12_makesCopy_201 : decode cX12_makesCopy 201 = .ok (.istore 5, 2) := by decide +kernel
theorem dX12_makesCopy_203 : decode cX12_makesCopy 203 = .ok (.iinc 6 1, 3) := by decide +kernel
theorem dX12_makesCopy_206 : decode cX12_makesCopy 206 = .ok (.goto (-147), 3) := by decide +kernel
theorem dX12_makesCopy_209 : decode cX12_makesCopy 209 = .ok (.iconst 0, 1) := by decide +kernel
theorem dX12_makesCopy_210 : decode cX12_makesCopy 210 = .ok (.istore 6, 2) := by decide +kernel
theorem dX12_makesCopy_212 : decode cX12_makesCopy 212 = .ok (.iload 6, 2) := by decide +kernel
theorem dX12_makesCopy_214 : decode cX12_makesCopy 214 = .ok (.aload_n 0, 1) := by decide +kernel
theorem dX12_makesCopy_215 : decode cX12_makesCopy 215 = .ok (.getfield 77, 3) := by decide +kernel
theorem dX12_makesCopy_218 : decode cX12_makesCopy 218 = .ok (.sipush 288, 3) := by decide +kernel
theorem dX12_makesCopy_221 : decode cX12_makesCopy 221 = .ok (.iaload, 1) := by decide +kernel
theorem dX12_makesCopy_222 : decode cX12_makesCopy 222 = .ok (.if_icmp .ge 81, 3) := by decide +kernel
theorem dX12_makesCopy_225 : decode cX12_makesCopy 225 = .ok (.ldc 142, 2) := by decide +kernel
theorem dX12_makesCopy_227 : decode cX12_makesCopy 227 = .ok (.iload 6, 2) := by decide +kernel
theorem dX12_makesCopy_229 : decode cX12_makesCopy 229 = .ok (.iadd, 1) := by decide +kernel
theorem dX12_makesCopy_230 : decode cX12_makesCopy 230 = .ok (.istore 7, 2) := by decide +kernel
theorem dX12_makesCopy_232 : decode cX12_makesCopy 232 = .ok (.iload 5, 2) := by decide +kernel
theorem dX12_makesCopy_234 : decode cX12_makesCopy 234 = .ok (.ifCond .eq 60, 3) := by decide +kernel
theorem dX12_makesCopy_237 : decode cX12_makesCopy 237 = .ok (.aload_n 0, 1) := by decide +kernel
theorem dX12_makesCopy_238 : decode cX12_makesCopy 238 = .ok (.getfield 65, 3) := by decide +kernel
theorem dX12_makesCopy_241 : decode cX12_makesCopy 241 = .ok (.iload 7, 2) := by decide +kernel
theorem dX12_makesCopy_243 : decode cX12_makesCopy 243 = .ok (.iaload, 1) := by decide +kernel
theorem dX12_makesCopy_244 : decode cX12_makesCopy 244 = .ok (.iconst 2, 1) := by decide +kernel
theorem dX12_makesCopy_245 : decode cX12_makesCopy 245 = .ok (.if_icmp .ne 45, 3) := by decide +kernel
theorem dX12_makesCopy_248 : decode cX12_makesCopy 248 = .ok (.aload_n 0, 1) := by decide +kernel
theorem dX12_makesCopy_249 : decode cX12_makesCopy 249 = .ok (.getfield 68, 3) := by decide +kernel
theorem dX12_makesCopy_252 : decode cX12_makesCopy 252 = .ok (.iload 7, 2) := by decide +kernel
theorem dX12_makesCopy_254 : decode cX12_makesCopy 254 = .ok (.iconst 4, 1) := by decide +kernel
theorem dX12_makesCopy_255 : decode cX12_makesCopy 255 = .ok (.iadd, 1) := by decide +kernel
theorem dX12_makesCopy_256 : decode cX12_makesCopy 256 = .ok (.iaload, 1) := by decide +kernel
theorem dX12_makesCopy_257 : decode cX12_makesCopy 257 = .ok (.aload_n 0, 1) := by decide +kernel
theorem dX12_makesCopy_258 : decode cX12_makesCopy 258 = .ok (.getfield 68, 3) := by decide +kernel
theorem dX12_makesCopy_261 : decode cX12_makesCopy 261 = .ok (.iload 7, 2) := by decide +kernel
theorem dX12_makesCopy_263 : decode cX12_makesCopy 263 = .ok (.iconst 2, 1) := by decide +kernel
theorem dX12_makesCopy_264 : decode cX12_makesCopy 264 = .ok (.iadd, 1) := by decide +kernel
theorem dX12_makesCopy_265 : decode cX12_makesCopy 265 = .ok (.iaload, 1) := by decide +kernel
theorem dX12_makesCopy_266 : decode cX12_makesCopy 266 = .ok (.if_icmp .lt 28, 3) := by decide +kernel
theorem dX12_makesCopy_269 : decode cX12_makesCopy 269 = .ok (.aload_n 0, 1) := by decide +kernel
theorem dX12_makesCopy_270 : decode cX12_makesCopy 270 = .ok (.getfield 71, 3) := by decide +kernel
theorem dX12_makesCopy_273 : decode cX12_makesCopy 273 = .ok (.iload 7, 2) := by decide +kernel
theorem dX12_makesCopy_275 : decode cX12_makesCopy 275 = .ok (.iconst 4, 1) := by decide +kernel
theorem dX12_makesCopy_276 : decode cX12_makesCopy 276 = .ok (.iadd, 1) := by decide +kernel
theorem dX12_makesCopy_277 : decode cX12_makesCopy 277 = .ok (.iaload, 1) := by decide +kernel
theorem dX12_makesCopy_278 : decode cX12_makesCopy 278 = .ok (.aload_n 0, 1) := by decide +kernel
theorem dX12_makesCopy_279 : decode cX12_makesCopy 279 = .ok (.getfield 71, 3) := by decide +kernel
theorem dX12_makesCopy_282 : decode cX12_makesCopy 282 = .ok (.iload 7, 2) := by decide +kernel
theorem dX12_makesCopy_284 : decode cX12_makesCopy 284 = .ok (.iconst 2, 1) := by decide +kernel
theorem dX12_makesCopy_285 : decode cX12_makesCopy 285 = .ok (.iadd, 1) := by decide +kernel
theorem dX12_makesCopy_286 : decode cX12_makesCopy 286 = .ok (.iaload, 1) := by decide +kernel
theorem dX12_makesCopy_287 : decode cX12_makesCopy 287 = .ok (.if_icmp .lt 7, 3) := by decide +kernel
theorem dX12_makesCopy_290 : decode cX12_makesCopy 290 = .ok (.iconst 1, 1) := by decide +kernel
theorem dX12_makesCopy_291 : decode cX12_makesCopy 291 = .ok (.goto 4, 3) := by decide +kernel
theorem dX12_makesCopy_294 : decode cX12_makesCopy 294 = .ok (.iconst 0, 1) := by decide +kernel
theorem dX12_makesCopy_295 : decode cX12_makesCopy 295 = .ok (.istore 5, 2) := by decide +kernel
theorem dX12_makesCopy_297 : decode cX12_makesCopy 297 = .ok (.iinc 6 1, 3) := by decide +kernel
theorem dX12_makesCopy_300 : decode cX12_makesCopy 300 = .ok (.goto (-88), 3) := by decide +kernel
theorem dX12_makesCopy_303 : decode cX12_makesCopy 303 = .ok (.iload 5, 2) := by decide +kernel
theorem dX12_makesCopy_305 : decode cX12_makesCopy 305 = .ok (.ireturn, 1) := by decide +kernel
theorem dX12_copy_0 : decode cX12_copy 0 = .ok (.aload_n 0, 1) := by decide +kernel
theorem dX12_copy_1 : decode cX12_copy 1 = .ok (.iconst 0, 1) := by decide +kernel
theorem dX12_copy_2 : decode cX12_copy 2 = .ok (.putfield 1, 3) := by decide +kernel
theorem dX12_copy_5 : decode cX12_copy 5 = .ok (.iload_n 1, 1) := by decide +kernel
theorem dX12_copy_6 : decode cX12_copy 6 = .ok (.invokestatic 198, 3) := by decide +kernel
theorem dX12_copy_9 : decode cX12_copy 9 = .ok (.ifCond .eq 19, 3) := by decide +kernel
theorem dX12_copy_12 : decode cX12_copy 12 = .ok (.iload_n 2, 1) := by decide +kernel
theorem dX12_copy_13 : decode cX12_copy 13 = .ok (.invokestatic 198, 3) := by decide +kernel
theorem dX12_copy_16 : decode cX12_copy 16 = .ok (.ifCond .eq 12, 3) := by decide +kernel
theorem dX12_copy_19 : decode cX12_copy 19 = .ok (.aload_n 0, 1) := by decide +kernel
theorem dX12_copy_20 : decode cX12_copy 20 = .ok (.iload_n 1, 1) := by decide +kernel
theorem dX12_copy_21 : decode cX12_copy 21 = .ok (.iload_n 2, 1) := by decide +kernel
theorem dX12_copy_22 : decode cX12_copy 22 = .ok (.invokevirtual 210, 3) := by decide +kernel
theorem dX12_copy_25 : decode cX12_copy 25 = .ok (.ifCond .ne 5, 3) := by decide +kernel
theorem dX12_copy_28 : decode cX12_copy 28 = .ok (.iconst 0, 1) := by decide +kernel
theorem dX12_copy_29 : decode cX12_copy 29 = .ok (.ireturn, 1) := by decide +kernel
theorem dX12_copy_30 : decode cX12_copy 30 = .ok (.aload_n 0, 1) := by decide +kernel
theorem dX12_copy_31 : decode cX12_copy 31 = .ok (.iload_n 2, 1) := by decide +kernel
theorem dX12_copy_32 : decode cX12_copy 32 = .ok (.invokevirtual 207, 3) := by decide +kernel
theorem dX12_copy_35 : decode cX12_copy 35 = .ok (.iconst 1, 1) := by decide +kernel
theorem dX12_copy_36 : decode cX12_copy 36 = .ok (.ireturn, 1) := by decide +kernel
theorem dX12_unit_0 : decode cX12_unit 0 = .ok (.aload_n 0, 1) := by decide +kernel
theorem dX12_unit_1 : decode cX12_unit 1 = .ok (.iconst 0, 1) := by decide +kernel
theorem dX12_unit_2 : decode cX12_unit 2 = .ok (.putfield 1, 3) := by decide +kernel
theorem dX12_unit_5 : decode cX12_unit 5 = .ok (.iload_n 1, 1) := by decide +kernel
theorem dX12_unit_6 : decode cX12_unit 6 = .ok (.invokestatic 198, 3) := by decide +kernel
theorem dX12_unit_9 : decode cX12_unit 9 = .ok (.ifCond .eq 48, 3) := by decide +kernel
theorem dX12_unit_12 : decode cX12_unit 12 = .ok (.aload_n 0, 1) := by decide +kernel
theorem dX12_unit_13 : decode cX12_unit 13 = .ok (.getfield 80, 3) := by decide +kernel
theorem dX12_unit_16 : decode cX12_unit 16 = .ok (.iload_n 1, 1) := by decide +kernel
theorem dX12_unit_17 : decode cX12_unit 17 = .ok (.iaload, 1) := by decide +kernel
theorem dX12_unit_18 : decode cX12_unit 18 = .ok (.iconst 1, 1) := by decide +kernel
theorem dX12_unit_19 : decode cX12_unit 19 = .ok (.if_icmp .ne 38, 3) := by decide +kernel
theorem dX12_unit_22 : decode cX12_unit 22 = .ok (.iload_n 2, 1) := by decide +kernel
theorem dX12_unit_23 : decode cX12_unit 23 = .ok (.bipush (-4), 2) := by decide +kernel
theorem dX12_unit_25 : decode cX12_unit 25 = .ok (.if_icmp .lt 32, 3) := by decide +kernel
theorem dX12_unit_28 : decode cX12_unit 28 = .ok (.iload_n 2, 1) := by decide +kernel
theorem dX12_unit_29 : decode cX12_unit 29 = .ok (.iconst 4, 1) := by decide +kernel
theorem dX12_unit_30 : decode cX12_unit 30 = .ok (.if_icmp .gt 27, 3) := by decide +kernel
theorem dX12_unit_33 : decode cX12_unit 33 = .ok (.iload_n 3, 1) := by decide +kernel
theorem dX12_unit_34 : decode cX12_unit 34 = .ok (.bipush (-4), 2) := by decide +kernel
theorem dX12_unit_36 : decode cX12_unit 36 = .ok (.if_icmp .lt 21, 3) := by decide +kernel
theorem dX12_unit_39 : decode cX12_unit 39 = .ok (.iload_n 3, 1) := by decide +kernel
theorem dX12_unit_40 : decode cX12_unit 40 = .ok (.iconst 4, 1) := by decide +kernel
theorem dX12_unit_41 : decode cX12_unit 41 = .ok (.if_icmp .gt 16, 3) := by decide +kernel
theorem dX12_unit_44 : decode cX12_unit 44 = .ok (.iload 4, 2) := by decide +kernel
theorem dX12_unit_46 : decode cX12_unit 46 = .ok (.bipush (-4), 2) := by decide +kernel
theorem dX12_unit_48 : decode cX12_unit 48 = .ok (.if_icmp .lt 9, 3) := by decide +kernel
theorem dX12_unit_51 : decode cX12_unit 51 = .ok (.iload 4, 2) := by decide +kernel
theorem dX12_unit_53 : decode cX12_unit 53 = .ok (.iconst 4, 1) := by decide +kernel
theorem dX12_unit_54 : decode cX12_unit 54 = .ok (.if_icmp .le 5, 3) := by decide +kernel
theorem dX12_unit_57 : decode cX12_unit 57 = .ok (.iconst 0, 1) := by decide +kernel
theorem dX12_unit_58 : decode cX12_unit 58 = .ok (.ireturn, 1) := by decide +kernel
theorem dX12_unit_59 : decode cX12_unit 59 = .ok (.aload_n 0, 1) := by decide +kernel
theorem dX12_unit_60 : decode cX12_unit 60 = .ok (.getfield 86, 3) := by decide +kernel
theorem dX12_unit_63 : decode cX12_unit 63 = .ok (.iconst 3, 1) := by decide +kernel
theorem dX12_unit_64 : decode cX12_unit 64 = .ok (.iload_n 1, 1) := by decide +kernel
theorem dX12_unit_65 : decode cX12_unit 65 = .ok (.imul, 1) := by decide +kernel
theorem dX12_unit_66 : decode cX12_unit 66 = .ok (.iload_n 2, 1) := by decide +kernel
theorem dX12_unit_67 : decode cX12_unit 67 = .ok (.iastore, 1) := by decide +kernel
theorem dX12_unit_68 : decode cX12_unit 68 = .ok (.aload_n 0, 1) := by decide +kernel
theorem dX12_unit_69 : decode cX12_unit 69 = .ok (.getfield 86, 3) := by decide +kernel
theorem dX12_unit_72 : decode cX12_unit 72 = .ok (.iconst 3, 1) := by decide +kernel
theorem dX12_unit_73 : decode cX12_unit 73 = .ok (.iload_n 1, 1) := by decide +kernel
theorem dX12_unit_74 : decode cX12_unit 74 = .ok (.imul, 1) := by decide +kernel
theorem dX12_unit_75 : decode cX12_unit 75 = .ok (.iconst 1, 1) := by decide +kernel
theorem dX12_unit_76 : decode cX12_unit 76 = .ok (.iadd, 1) := by decide +kernel
theorem dX12_unit_77 : decode cX12_unit 77 = .ok (.iload_n 3, 1) := by decide +kernel
theorem dX12_unit_78 : decode cX12_unit 78 = .ok (.iastore, 1) := by decide +kernel
theorem dX12_unit_79 : decode cX12_unit 79 = .ok (.aload_n 0, 1) := by decide +kernel
theorem dX12_unit_80 : decode cX12_unit 80 = .ok (.getfield 86, 3) := by decide +kernel
theorem dX12_unit_83 : decode cX12_unit 83 = .ok (.iconst 3, 1) := by decide +kernel
theorem dX12_unit_84 : decode cX12_unit 84 = .ok (.iload_n 1, 1) := by decide +kernel
theorem dX12_unit_85 : decode cX12_unit 85 = .ok (.imul, 1) := by decide +kernel
theorem dX12_unit_86 : decode cX12_unit 86 = .ok (.iconst 2, 1) := by decide +kernel
theorem dX12_unit_87 : decode cX12_unit 87 = .ok (.iadd, 1) := by decide +kernel
theorem dX12_unit_88 : decode cX12_unit 88 = .ok (.iload 4, 2) := by decide +kernel
theorem dX12_unit_90 : decode cX12_unit 90 = .ok (.iastore, 1) := by decide +kernel
theorem dX12_unit_91 : decode cX12_unit 91 = .ok (.aload_n 0, 1) := by decide +kernel
theorem dX12_unit_92 : decode cX12_unit 92 = .ok (.invokevirtual 195, 3) := by decide +kernel
theorem dX12_unit_95 : decode cX12_unit 95 = .ok (.iconst 1, 1) := by decide +kernel
theorem dX12_unit_96 : decode cX12_unit 96 = .ok (.ireturn, 1) := by decide +kernel
theorem dX12_keep_0 : decode cX12_keep 0 = .ok (.aload_n 0, 1) := by decide +kernel
theorem dX12_keep_1 : decode cX12_keep 1 = .ok (.iconst 0, 1) := by decide +kernel
theorem dX12_keep_2 : decode cX12_keep 2 = .ok (.putfield 1, 3) := by decide +kernel
theorem dX12_keep_5 : decode cX12_keep 5 = .ok (.iload_n 1, 1) := by decide +kernel
theorem dX12_keep_6 : decode cX12_keep 6 = .ok (.invokestatic 198, 3) := by decide +kernel
theorem dX12_keep_9 : decode cX12_keep 9 = .ok (.ifCond .ne 5, 3) := by decide +kernel
theorem dX12_keep_12 : decode cX12_keep 12 = .ok (.iconst 0, 1) := by decide +kernel
theorem dX12_keep_13 : decode cX12_keep 13 = .ok (.ireturn, 1) := by decide +kernel
theorem dX12_keep_14 : decode cX12_keep 14 = .ok (.aload_n 0, 1) := by decide +kernel
theorem dX12_keep_15 : decode cX12_keep 15 = .ok (.getfield 89, 3) := by decide +kernel
theorem dX12_keep_18 : decode cX12_keep 18 = .ok (.iload_n 1, 1) := by decide +kernel
theorem dX12_keep_19 : decode cX12_keep 19 = .ok (.iload_n 2, 1) := by decide +kernel
theorem dX12_keep_20 : decode cX12_keep 20 = .ok (.bastore, 1) := by decide +kernel
theorem dX12_keep_21 : decode cX12_keep 21 = .ok (.iconst 1, 1) := by decide +kernel
theorem dX12_keep_22 : decode cX12_keep 22 = .ok (.ireturn, 1) := by decide +kernel
theorem dX12_has_0 : decode cX12_has 0 = .ok (.aload_n 0, 1) := by decide +kernel
theorem dX12_has_1 : decode cX12_has 1 = .ok (.iconst 5, 1) := by decide +kernel
theorem dX12_has_2 : decode cX12_has 2 = .ok (.iload_n 1, 1) := by decide +kernel
theorem dX12_has_3 : decode cX12_has 3 = .ok (.imul, 1) := by decide +kernel
theorem dX12_has_4 : decode cX12_has 4 = .ok (.iload_n 2, 1) := by decide +kernel
theorem dX12_has_5 : decode cX12_has 5 = .ok (.bipush 64, 2) := by decide +kernel
theorem dX12_has_7 : decode cX12_has 7 = .ok (.idiv, 1) := by decide +kernel
theorem dX12_has_8 : decode cX12_has 8 = .ok (.iadd, 1) := by decide +kernel
theorem dX12_has_9 : decode cX12_has 9 = .ok (.laload, 1) := by decide +kernel
theorem dX12_has_10 : decode cX12_has 10 = .ok (.iload_n 2, 1) := by decide +kernel
theorem dX12_has_11 : decode cX12_has 11 = .ok (.bipush 64, 2) := by decide +kernel
theorem dX12_has_13 : decode cX12_has 13 = .ok (.irem, 1) := by decide +kernel
theorem dX12_has_14 : decode cX12_has 14 = .ok (.lshr, 1) := by decide +kernel
theorem dX12_has_15 : decode cX12_has 15 = .ok (.lconst 1, 1) := by decide +kernel
theorem dX12_has_16 : decode cX12_has 16 = .ok (.land, 1) := by decide +kernel
theorem dX12_has_17 : decode cX12_has 17 = .ok (.lconst 1, 1) := by decide +kernel
theorem dX12_has_18 : decode cX12_has 18 = .ok (.lcmp, 1) := by decide +kernel
theorem dX12_has_19 : decode cX12_has 19 = .ok (.ifCond .ne 7, 3) := by decide +kernel
theorem dX12_has_22 : decode cX12_has 22 = .ok (.iconst 1, 1) := by decide +kernel
theorem dX12_has_23 : decode cX12_has 23 = .ok (.goto 4, 3) := by decide +kernel
theorem dX12_has_26 : decode cX12_has 26 = .ok (.iconst 0, 1) := by decide +kernel
theorem dX12_has_27 : decode cX12_has 27 = .ok (.ireturn, 1) := by decide +kernel
theorem dX12_sets_0 : decode cX12_sets 0 = .ok (.aload_n 0, 1) := by decide +kernel
theorem dX12_sets_1 : decode cX12_sets 1 = .ok (.iconst 5, 1) := by decide +kernel
theorem dX12_sets_2 : decode cX12_sets 2 = .ok (.iload_n 1, 1) := by decide +kernel
theorem dX12_sets_3 : decode cX12_sets 3 = .ok (.imul, 1) := by decide +kernel
theorem dX12_sets_4 : decode cX12_sets 4 = .ok (.iload_n 2, 1) := by decide +kernel
theorem dX12_sets_5 : decode cX12_sets 5 = .ok (.bipush 64, 2) := by decide +kernel
theorem dX12_sets_7 : decode cX12_sets 7 = .ok (.idiv, 1) := by decide +kernel
theorem dX12_sets_8 : decode cX12_sets 8 = .ok (.iadd, 1) := by decide +kernel
theorem dX12_sets_9 : decode cX12_sets 9 = .ok (.dup2, 1) := by decide +kernel
theorem dX12_sets_10 : decode cX12_sets 10 = .ok (.laload, 1) := by decide +kernel
theorem dX12_sets_11 : decode cX12_sets 11 = .ok (.lconst 1, 1) := by decide +kernel
theorem dX12_sets_12 : decode cX12_sets 12 = .ok (.iload_n 2, 1) := by decide +kernel
theorem dX12_sets_13 : decode cX12_sets 13 = .ok (.bipush 64, 2) := by decide +kernel
theorem dX12_sets_15 : decode cX12_sets 15 = .ok (.irem, 1) := by decide +kernel
theorem dX12_sets_16 : decode cX12_sets 16 = .ok (.lshl, 1) := by decide +kernel
theorem dX12_sets_17 : decode cX12_sets 17 = .ok (.lor, 1) := by decide +kernel
theorem dX12_sets_18 : decode cX12_sets 18 = .ok (.lastore, 1) := by decide +kernel
theorem dX12_sets_19 : decode cX12_sets 19 = .ok (.return_, 1) := by decide +kernel
theorem dX12_spanLast_0 : decode cX12_spanLast 0 = .ok (.bipush 120, 2) := by decide +kernel
theorem dX12_spanLast_2 : decode cX12_spanLast 2 = .ok (.iload_n 1, 1) := by decide +kernel
theorem dX12_spanLast_3 : decode cX12_spanLast 3 = .ok (.imul, 1) := by decide +kernel
theorem dX12_spanLast_4 : decode cX12_spanLast 4 = .ok (.iload_n 2, 1) := by decide +kernel
theorem dX12_spanLast_5 : decode cX12_spanLast 5 = .ok (.iadd, 1) := by decide +kernel
theorem dX12_spanLast_6 : decode cX12_spanLast 6 = .ok (.istore_n 3, 1) := by decide +kernel
theorem dX12_spanLast_7 : decode cX12_spanLast 7 = .ok (.iload_n 2, 1) := by decide +kernel
theorem dX12_spanLast_8 : decode cX12_spanLast 8 = .ok (.iconst 1, 1) := by decide +kernel
theorem dX12_spanLast_9 : decode cX12_spanLast 9 = .ok (.if_icmp .le 19, 3) := by decide +kernel
theorem dX12_spanLast_12 : decode cX12_spanLast 12 = .ok (.aload_n 0, 1) := by decide +kernel
theorem dX12_spanLast_13 : decode cX12_spanLast 13 = .ok (.getfield 65, 3) := by decide +kernel
theorem dX12_spanLast_16 : decode cX12_spanLast 16 = .ok (.iload_n 3, 1) := by decide +kernel
theorem dX12_spanLast_17 : decode cX12_spanLast 17 = .ok (.iconst 2, 1) := by decide +kernel
theorem dX12_spanLast_18 : decode cX12_spanLast 18 = .ok (.isub, 1) := by decide +kernel
theorem dX12_spanLast_19 : decode cX12_spanLast 19 = .ok (.iaload, 1) := by decide +kernel
theorem dX12_spanLast_20 : decode cX12_spanLast 20 = .ok (.iconst 2, 1) := by decide +kernel
theorem dX12_spanLast_21 : decode cX12_spanLast 21 = .ok (.if_icmp .ne 7, 3) := by decide +kernel
theorem dX12_spanLast_24 : decode cX12_spanLast 24 = .ok (.iconst 1, 1) := by decide +kernel
theorem dX12_spanLast_25 : decode cX12_spanLast 25 = .ok (.goto 4, 3) := by decide +kernel
theorem dX12_spanLast_28 : decode cX12_spanLast 28 = .ok (.iconst 0, 1) := by decide +kernel
theorem dX12_spanLast_29 : decode cX12_spanLast 29 = .ok (.istore 4, 2) := by decide +kernel
theorem dX12_spanLast_31 : decode cX12_spanLast 31 = .ok (.iload 4, 2) := by decide +kernel
theorem dX12_spanLast_33 : decode cX12_spanLast 33 = .ok (.ifCond .eq 9, 3) := by decide +kernel
theorem dX12_spanLast_36 : decode cX12_spanLast 36 = .ok (.iload_n 3, 1) := by decide +kernel
theorem dX12_spanLast_37 : decode cX12_spanLast 37 = .ok (.iconst 2, 1) := by decide +kernel
theorem dX12_spanLast_38 : decode cX12_spanLast 38 = .ok (.iadd, 1) := by decide +kernel
theorem dX12_spanLast_39 : decode cX12_spanLast 39 = .ok (.goto 4, 3) := by decide +kernel
theorem dX12_spanLast_42 : decode cX12_spanLast 42 = .ok (.iload_n 3, 1) := by decide +kernel
theorem dX12_spanLast_43 : decode cX12_spanLast 43 = .ok (.ireturn, 1) := by decide +kernel
theorem dX12_findReads_0 : decode cX12_findReads 0 = .ok (.iconst 0, 1) := by decide +kernel
theorem dX12_findReads_1 : decode cX12_findReads 1 = .ok (.istore_n 1, 1) := by decide +kernel
theorem dX12_findReads_2 : decode cX12_findReads 2 = .ok (.iload_n 1, 1) := by decide +kernel
theorem dX12_findReads_3 : decode cX12_findReads 3 = .ok (.sipush 1440, 3) := by decide +kernel
theorem dX12_findReads_6 : decode cX12_findReads 6 = .ok (.if_icmp .ge 16, 3) := by decide +kernel
theorem dX12_findReads_9 : decode cX12_findReads 9 = .ok (.aload_n 0, 1) := by decide +kernel
theorem dX12_findReads_10 : decode cX12_findReads 10 = .ok (.getfield 96, 3) := by decide +kernel
theorem dX12_findReads_13 : decode cX12_findReads 13 = .ok (.iload_n 1, 1) := by decide +kernel
theorem dX12_findReads_14 : decode cX12_findReads 14 = .ok (.lconst 0, 1) := by decide +kernel
theorem dX12_findReads_15 : decode cX12_findReads 15 = .ok (.lastore, 1) := by decide +kernel
theorem dX12_findReads_16 : decode cX12_findReads 16 = .ok (.iinc 1 1, 3) := by decide +kernel
theorem dX12_findReads_19 : decode cX12_findReads 19 = .ok (.goto (-17), 3) := by decide +kernel
theorem dX12_findReads_22 : decode cX12_findReads 22 = .ok (.iconst 0, 1) := by decide +kernel
theorem dX12_findReads_23 : decode cX12_findReads 23 = .ok (.istore_n 1, 1) := by decide +kernel
theorem dX12_findReads_24 : decode cX12_findReads 24 = .ok (.iload_n 1, 1) := by decide +kernel
theorem dX12_findReads_25 : decode cX12_findReads 25 = .ok (.sipush 288, 3) := by decide +kernel
theorem dX12_findReads_28 : decode cX12_findReads 28 = .ok (.if_icmp .ge 130, 3) := by decide +kernel
theorem dX12_findReads_31 : decode cX12_findReads 31 = .ok (.iconst 0, 1) := by decide +kernel
theorem dX12_findReads_32 : decode cX12_findReads 32 = .ok (.istore_n 2, 1) := by decide +kernel
theorem dX12_findReads_33 : decode cX12_findReads 33 = .ok (.iload_n 2, 1) := by decide +kernel
theorem dX12_findReads_34 : decode cX12_findReads 34 = .ok (.aload_n 0, 1) := by decide +kernel
theorem dX12_findReads_35 : decode cX12_findReads 35 = .ok (.getfield 77, 3) := by decide +kernel
theorem dX12_findReads_38 : decode cX12_findReads 38 = .ok (.iload_n 1, 1) := by decide +kernel
theorem dX12_findReads_39 : decode cX12_findReads 39 = .ok (.iaload, 1) := by decide +kernel
theorem dX12_findReads_40 : decode cX12_findReads 40 = .ok (.if_icmp .ge 112, 3) := by decide +kernel
theorem dX12_findReads_43 : decode cX12_findReads 43 = .ok (.aload_n 0, 1) := by decide +kernel
theorem dX12_findReads_44 : decode cX12_findReads 44 = .ok (.getfield 80, 3) := by decide +kernel
theorem dX12_findReads_47 : decode cX12_findReads 47 = .ok (.iload_n 1, 1) := by decide +kernel
theorem dX12_findReads_48 : decode cX12_findReads 48 = .ok (.iaload, 1) := by decide +kernel
theorem dX12_findReads_49 : decode cX12_findReads 49 = .ok (.iconst 2, 1) := by decide +kernel
theorem dX12_findReads_50 : decode cX12_findReads 50 = .ok (.if_icmp .ne 102, 3) := by decide +kernel
theorem dX12_findReads_53 : decode cX12_findReads 53 = .ok (.bipush 120, 2) := by decide +kernel
theorem dX12_findReads_55 : decode cX12_findReads 55 = .ok (.iload_n 1, 1) := by decide +kernel
theorem dX12_findReads_56 : decode cX12_findReads 56 = .ok (.imul, 1) := by decide +kernel
theorem dX12_findReads_57 : decode cX12_findReads 57 = .ok (.iload_n 2, 1) := by decide +kernel
theorem dX12_findReads_58 : decode cX12_findReads 58 = .ok (.iadd, 1) := by decide +kernel
theorem dX12_findReads_59 : decode cX12_findReads 59 = .ok (.istore_n 3, 1) := by decide +kernel
theorem dX12_findReads_60 : decode cX12_findReads 60 = .ok (.aload_n 0, 1) := by decide +kernel
theorem dX12_findReads_61 : decode cX12_findReads 61 = .ok (.getfield 65, 3) := by decide +kernel
theorem dX12_findReads_64 : decode cX12_findReads 64 = .ok (.iload_n 3, 1) := by decide +kernel
theorem dX12_findReads_65 : decode cX12_findReads 65 = .ok (.iaload, 1) := by decide +kernel
theorem dX12_findReads_66 : decode cX12_findReads 66 = .ok (.iconst 3, 1) := by decide +kernel
theorem dX12_findReads_67 : decode cX12_findReads 67 = .ok (.if_icmp .ne 79, 3) := by decide +kernel
theorem dX12_findReads_70 : decode cX12_findReads 70 = .ok (.aload_n 0, 1) := by decide +kernel
theorem dX12_findReads_71 : decode cX12_findReads 71 = .ok (.iload_n 1, 1) := by decide +kernel
theorem dX12_findReads_72 : decode cX12_findReads 72 = .ok (.iload_n 2, 1) := by decide +kernel
theorem dX12_findReads_73 : decode cX12_findReads 73 = .ok (.invokevirtual 214, 3) := by decide +kernel
theorem dX12_findReads_76 : decode cX12_findReads 76 = .ok (.istore 4, 2) := by decide +kernel
theorem dX12_findReads_78 : decode cX12_findReads 78 = .ok (.aload_n 0, 1) := by decide +kernel
theorem dX12_findReads_79 : decode cX12_findReads 79 = .ok (.getfield 71, 3) := by decide +kernel
theorem dX12_findReads_82 : decode cX12_findReads 82 = .ok (.iload_n 3, 1) := by decide +kernel
theorem dX12_findReads_83 : decode cX12_findReads 83 = .ok (.iaload, 1) := by decide +kernel
theorem dX12_findReads_84 : decode cX12_findReads 84 = .ok (.istore 5, 2) := by decide +kernel
theorem dX12_findReads_86 : decode cX12_findReads 86 = .ok (.iload 5, 2) := by decide +kernel
theorem dX12_findReads_88 : decode cX12_findReads 88 = .ok (.aload_n 0, 1) := by decide +kernel
theorem dX12_findReads_89 : decode cX12_findReads 89 = .ok (.getfield 71, 3) := by decide +kernel
theorem dX12_findReads_92 : decode cX12_findReads 92 = .ok (.iload 4, 2) := by decide +kernel
theorem dX12_findReads_94 : decode cX12_findReads 94 = .ok (.iaload, 1) := by decide +kernel
theorem dX12_findReads_95 : decode cX12_findReads 95 = .ok (.if_icmp .gt 51, 3) := by decide +kernel
theorem dX12_findReads_98 : decode cX12_findReads 98 = .ok (.aload_n 0, 1) := by decide +kernel
theorem dX12_findReads_99 : decode cX12_findReads 99 = .ok (.getfield 68, 3) := by decide +kernel
theorem dX12_findReads_102 : decode cX12_findReads 102 = .ok (.iload_n 3, 1) := by decide +kernel
theorem dX12_findReads_103 : decode cX12_findReads 103 = .ok (.iaload, 1) := by decide +kernel
theorem dX12_findReads_104 : decode cX12_findReads 104 = .ok (.istore 6, 2) := by decide +kernel
theorem dX12_findReads_106 : decode cX12_findReads 106 = .ok (.iload 6, 2) := by decide +kernel
theorem dX12_findReads_108 : decode cX12_findReads 108 = .ok (.aload_n 0, 1) := by decide +kernel
theorem dX12_findReads_109 : decode cX12_findReads 109 = .ok (.getfield 68, 3) := by decide +kernel
theorem dX12_findReads_112 : decode cX12_findReads 112 = .ok (.iload 4, 2) := by decide +kernel
theorem dX12_findReads_114 : decode cX12_findReads 114 = .ok (.iaload, 1) := by decide +kernel
theorem dX12_findReads_115 : decode cX12_findReads 115 = .ok (.if_icmp .gt 25, 3) := by decide +kernel
theorem dX12_findReads_118 : decode cX12_findReads 118 = .ok (.aload_n 0, 1) := by decide +kernel
theorem dX12_findReads_119 : decode cX12_findReads 119 = .ok (.getfield 96, 3) := by decide +kernel
theorem dX12_findReads_122 : decode cX12_findReads 122 = .ok (.iload_n 1, 1) := by decide +kernel
theorem dX12_findReads_123 : decode cX12_findReads 123 = .ok (.bipush 12, 2) := by decide +kernel
theorem dX12_findReads_125 : decode cX12_findReads 125 = .ok (.iload 5, 2) := by decide +kernel
theorem dX12_findReads_127 : decode cX12_findReads 127 = .ok (.imul, 1) := by decide +kernel
theorem dX12_findReads_128 : decode cX12_findReads 128 = .ok (.iload 6, 2) := by decide +kernel
theorem dX12_findReads_130 : decode cX12_findReads 130 = .ok (.iadd, 1) := by decide +kernel
theorem dX12_findReads_131 : decode cX12_findReads 131 = .ok (.invokestatic 218, 3) := by decide +kernel
theorem dX12_findReads_134 : decode cX12_findReads 134 = .ok (.iinc 6 1, 3) := by decide +kernel
theorem dX12_findReads_137 : decode cX12_findReads 137 = .ok (.goto (-31), 3) := by decide +kernel
theorem dX12_findReads_140 : decode cX12_findReads 140 = .ok (.iinc 5 1, 3) := by decide +kernel
theorem dX12_findReads_143 : decode cX12_findReads 143 = .ok (.goto (-57), 3) := by decide +kernel
theorem dX12_findReads_146 : decode cX12_findReads 146 = .ok (.iinc 2 1, 3) := by decide +kernel
theorem dX12_findReads_149 : decode cX12_findReads 149 = .ok (.goto (-116), 3) := by decide +kernel
theorem dX12_findReads_152 : decode cX12_findReads 152 = .ok (.iinc 1 1, 3) := by decide +kernel
theorem dX12_findReads_155 : decode cX12_findReads 155 = .ok (.goto (-131), 3) := by decide +kernel
theorem dX12_findReads_158 : decode cX12_findReads 158 = .ok (.iconst 0, 1) := by decide +kernel
theorem dX12_findReads_159 : decode cX12_findReads 159 = .ok (.istore_n 1, 1) := by decide +kernel
theorem dX12_findReads_160 : decode cX12_findReads 160 = .ok (.iload_n 1, 1) := by decide +kernel
theorem dX12_findReads_161 : decode cX12_findReads 161 = .ok (.sipush 1440, 3) := by decide +kernel
theorem dX12_findReads_164 : decode cX12_findReads 164 = .ok (.if_icmp .ge 21, 3) := by decide +kernel
theorem dX12_findReads_167 : decode cX12_findReads 167 = .ok (.aload_n 0, 1) := by decide +kernel
theorem dX12_findReads_168 : decode cX12_findReads 168 = .ok (.getfield 99, 3) := by decide +kernel
theorem dX12_findReads_171 : decode cX12_findReads 171 = .ok (.iload_n 1, 1) := by decide +kernel
theorem dX12_findReads_172 : decode cX12_findReads 172 = .ok (.aload_n 0, 1) := by decide +kernel
theorem dX12_findReads_173 : decode cX12_findReads 173 = .ok (.getfield 96, 3) := by decide +kernel
theorem dX12_findReads_176 : decode cX12_findReads 176 = .ok (.iload_n 1, 1) := by decide +kernel
theorem dX12_findReads_177 : decode cX12_findReads 177 = .ok (.laload, 1) := by decide +kernel
theorem dX12_findReads_178 : decode cX12_findReads 178 = .ok (.lastore, 1) := by decide +kernel
theorem dX12_findReads_179 : decode cX12_findReads 179 = .ok (.iinc 1 1, 3) := by decide +kernel
theorem dX12_findReads_182 : decode cX12_findReads 182 = .ok (.goto (-22), 3) := by decide +kernel
theorem dX12_findReads_185 : decode cX12_findReads 185 = .ok (.iconst 0, 1) := by decide +kernel
theorem dX12_findReads_186 : decode cX12_findReads 186 = .ok (.istore_n 1, 1) := by decide +kernel
theorem dX12_findReads_187 : decode cX12_findReads 187 = .ok (.iload_n 1, 1) := by decide +kernel
theorem dX12_findReads_188 : decode cX12_findReads 188 = .ok (.sipush 288, 3) := by decide +kernel
theorem dX12_findReads_191 : decode cX12_findReads 191 = .ok (.if_icmp .ge 82, 3) := by decide +kernel
theorem dX12_findReads_194 : decode cX12_findReads 194 = .ok (.iconst 0, 1) := by decide +kernel
theorem dX12_findReads_195 : decode cX12_findReads 195 = .ok (.istore_n 2, 1) := by decide +kernel
theorem dX12_findReads_196 : decode cX12_findReads 196 = .ok (.iload_n 2, 1) := by decide +kernel
theorem dX12_findReads_197 : decode cX12_findReads 197 = .ok (.sipush 288, 3) := by decide +kernel
theorem dX12_findReads_200 : decode cX12_findReads 200 = .ok (.if_icmp .ge 67, 3) := by decide +kernel
theorem dX12_findReads_203 : decode cX12_findReads 203 = .ok (.aload_n 0, 1) := by decide +kernel
theorem dX12_findReads_204 : decode cX12_findReads 204 = .ok (.getfield 80, 3) := by decide +kernel
theorem dX12_findReads_207 : decode cX12_findReads 207 = .ok (.iload_n 1, 1) := by decide +kernel
theorem dX12_findReads_208 : decode cX12_findReads 208 = .ok (.iaload, 1) := by decide +kernel
theorem dX12_findReads_209 : decode cX12_findReads 209 = .ok (.iconst 2, 1) := by decide +kernel
theorem dX12_findReads_210 : decode cX12_findReads 210 = .ok (.if_icmp .ne 57, 3) := by decide +kernel
theorem dX12_findReads_213 : decode cX12_findReads 213 = .ok (.aload_n 0, 1) := by decide +kernel
theorem dX12_findReads_214 : decode cX12_findReads 214 = .ok (.getfield 99, 3) := by decide +kernel
theorem dX12_findReads_217 : decode cX12_findReads 217 = .ok (.iload_n 2, 1) := by decide +kernel
theorem dX12_findReads_218 : decode cX12_findReads 218 = .ok (.iload_n 1, 1) := by decide +kernel
theorem dX12_findReads_219 : decode cX12_findReads 219 = .ok (.invokestatic 222, 3) := by decide +kernel
theorem dX12_findReads_222 : decode cX12_findReads 222 = .ok (.ifCond .eq 39, 3) := by decide +kernel
theorem dX12_findReads_225 : decode cX12_findReads 225 = .ok (.iconst 0, 1) := by decide +kernel
theorem dX12_findReads_226 : decode cX12_findReads 226 = .ok (.istore_n 3, 1) := by decide +kernel
theorem dX12_findReads_227 : decode cX12_findReads 227 = .ok (.iload_n 3, 1) := by decide +kernel
theorem dX12_findReads_228 : decode cX12_findReads 228 = .ok (.iconst 5, 1) := by decide +kernel
theorem dX12_findReads_229 : decode cX12_findReads 229 = .ok (.if_icmp .ge 32, 3) := by decide +kernel
theorem dX12_findReads_232 : decode cX12_findReads 232 = .ok (.aload_n 0, 1) := by decide +kernel
theorem dX12_findReads_233 : decode cX12_findReads 233 = .ok (.getfield 99, 3) := by decide +kernel
theorem dX12_findReads_236 : decode cX12_findReads 236 = .ok (.iconst 5, 1) := by decide +kernel
theorem dX12_findReads_237 : decode cX12_findReads 237 = .ok (.iload_n 2, 1) := by decide +kernel
theorem dX12_findReads_238 : decode cX12_findReads 238 = .ok (.imul, 1) := by decide +kernel
theorem dX12_findReads_239 : decode cX12_findReads 239 = .ok (.iload_n 3, 1) := by decide +kernel
theorem dX12_findReads_240 : decode cX12_findReads 240 = .ok (.iadd, 1) := by decide +kernel
theorem dX12_findReads_241 : decode cX12_findReads 241 = .ok (.dup2, 1) := by decide +kernel
theorem dX12_findReads_242 : decode cX12_findReads 242 = .ok (.laload, 1) := by decide +kernel
theorem dX12_findReads_243 : decode cX12_findReads 243 = .ok (.aload_n 0, 1) := by decide +kernel
theorem dX12_findReads_244 : decode cX12_findReads 244 = .ok (.getfield 99, 3) := by decide +kernel
theorem dX12_findReads_247 : decode cX12_findReads 247 = .ok (.iconst 5, 1) := by decide +kernel
theorem dX12_findReads_248 : decode cX12_findReads 248 = .ok (.iload_n 1, 1) := by decide +kernel
theorem dX12_findReads_249 : decode cX12_findReads 249 = .ok (.imul, 1) := by decide +kernel
theorem dX12_findReads_250 : decode cX12_findReads 250 = .ok (.iload_n 3, 1) := by decide +kernel
theorem dX12_findReads_251 : decode cX12_findReads 251 = .ok (.iadd, 1) := by decide +kernel
theorem dX12_findReads_252 : decode cX12_findReads 252 = .ok (.laload, 1) := by decide +kernel
theorem dX12_findReads_253 : decode cX12_findReads 253 = .ok (.lor, 1) := by decide +kernel
theorem dX12_findReads_254 : decode cX12_findReads 254 = .ok (.lastore, 1) := by decide +kernel
theorem dX12_findReads_255 : decode cX12_findReads 255 = .ok (.iinc 3 1, 3) := by decide +kernel
theorem dX12_findReads_258 : decode cX12_findReads 258 = .ok (.goto (-31), 3) := by decide +kernel
theorem dX12_findReads_261 : decode cX12_findReads 261 = .ok (.iinc 2 1, 3) := by decide +kernel
theorem dX12_findReads_264 : decode cX12_findReads 264 = .ok (.goto (-68), 3) := by decide +kernel
theorem dX12_findReads_267 : decode cX12_findReads 267 = .ok (.iinc 1 1, 3) := by decide +kernel
theorem dX12_findReads_270 : decode cX12_findReads 270 = .ok (.goto (-83), 3) := by decide +kernel
theorem dX12_findReads_273 : decode cX12_findReads 273 = .ok (.return_, 1) := by decide +kernel
theorem dX12_isRing_0 : decode cX12_isRing 0 = .ok (.aload_n 0, 1) := by decide +kernel
theorem dX12_isRing_1 : decode cX12_isRing 1 = .ok (.getfield 99, 3) := by decide +kernel
theorem dX12_isRing_4 : decode cX12_isRing 4 = .ok (.iload_n 1, 1) := by decide +kernel
theorem dX12_isRing_5 : decode cX12_isRing 5 = .ok (.iload_n 1, 1) := by decide +kernel
theorem dX12_isRing_6 : decode cX12_isRing 6 = .ok (.invokestatic 222, 3) := by decide +kernel
theorem dX12_isRing_9 : decode cX12_isRing 9 = .ok (.ireturn, 1) := by decide +kernel
theorem dX12_works_0 : decode cX12_works 0 = .ok (.aload_n 0, 1) := by decide +kernel
theorem dX12_works_1 : decode cX12_works 1 = .ok (.invokevirtual 226, 3) := by decide +kernel
theorem dX12_works_4 : decode cX12_works 4 = .ok (.iconst 0, 1) := by decide +kernel
theorem dX12_works_5 : decode cX12_works 5 = .ok (.istore_n 1, 1) := by decide +kernel
theorem dX12_works_6 : decode cX12_works 6 = .ok (.iload_n 1, 1) := by decide +kernel
theorem dX12_works_7 : decode cX12_works 7 = .ok (.sipush 288, 3) := by decide +kernel
theorem dX12_works_10 : decode cX12_works 10 = .ok (.if_icmp .ge 154, 3) := by decide +kernel
theorem dX12_works_13 : decode cX12_works 13 = .ok (.aload_n 0, 1) := by decide +kernel
theorem dX12_works_14 : decode cX12_works 14 = .ok (.getfield 124, 3) := by decide +kernel
theorem dX12_works_17 : decode cX12_works 17 = .ok (.iload_n 1, 1) := by decide +kernel
theorem dX12_works_18 : decode cX12_works 18 = .ok (.aload_n 0, 1) := by decide +kernel
theorem dX12_works_19 : decode cX12_works 19 = .ok (.getfield 80, 3) := by decide +kernel
theorem dX12_works_22 : decode cX12_works 22 = .ok (.iload_n 1, 1) := by decide +kernel
theorem dX12_works_23 : decode cX12_works 23 = .ok (.iaload, 1) := by decide +kernel
theorem dX12_works_24 : decode cX12_works 24 = .ok (.iconst 2, 1) := by decide +kernel
theorem dX12_works_25 : decode cX12_works 25 = .ok (.if_icmp .ne 11, 3) := by decide +kernel
theorem dX12_works_28 : decode cX12_works 28 = .ok (.aload_n 0, 1) := by decide +kernel
theorem dX12_works_29 : decode cX12_works 29 = .ok (.iload_n 1, 1) := by decide +kernel
theorem dX12_works_30 : decode cX12_works 30 = .ok (.invokevirtual 229, 3) := by decide +kernel
theorem dX12_works_33 : decode cX12_works 33 = .ok (.ifCond .eq 7, 3) := by decide +kernel
theorem dX12_works_36 : decode cX12_works 36 = .ok (.iconst 1, 1) := by decide +kernel
theorem dX12_works_37 : decode cX12_works 37 = .ok (.goto 4, 3) := by decide +kernel
theorem dX12_works_40 : decode cX12_works 40 = .ok (.iconst 0, 1) := by decide +kernel
theorem dX12_works_41 : decode cX12_works 41 = .ok (.bastore, 1) := by decide +kernel
theorem dX12_works_42 : decode cX12_works 42 = .ok (.aload_n 0, 1) := by decide +kernel
theorem dX12_works_43 : decode cX12_works 43 = .ok (.getfield 102, 3) := by decide +kernel
theorem dX12_works_46 : decode cX12_works 46 = .ok (.iload_n 1, 1) := by decide +kernel
theorem dX12_works_47 : decode cX12_works 47 = .ok (.aload_n 0, 1) := by decide +kernel
theorem dX12_works_48 : decode cX12_works 48 = .ok (.getfield 80, 3) := by decide +kernel
theorem dX12_works_51 : decode cX12_works 51 = .ok (.iload_n 1, 1) := by decide +kernel
theorem dX12_works_52 : decode cX12_works 52 = .ok (.iaload, 1) := by decide +kernel
theorem dX12_works_53 : decode cX12_works 53 = .ok (.iconst 1, 1) := by decide +kernel
theorem dX12_works_54 : decode cX12_works 54 = .ok (.if_icmp .ne 12, 3) := by decide +kernel
theorem dX12_works_57 : decode cX12_works 57 = .ok (.aload_n 0, 1) := by decide +kernel
theorem dX12_works_58 : decode cX12_works 58 = .ok (.getfield 83, 3) := by decide +kernel
theorem dX12_works_61 : decode cX12_works 61 = .ok (.iload_n 1, 1) := by decide +kernel
theorem dX12_works_62 : decode cX12_works 62 = .ok (.iaload, 1) := by decide +kernel
theorem dX12_works_63 : decode cX12_works 63 = .ok (.goto 4, 3) := by decide +kernel
theorem dX12_works_66 : decode cX12_works 66 = .ok (.iconst 0, 1) := by decide +kernel
theorem dX12_works_67 : decode cX12_works 67 = .ok (.iastore, 1) := by decide +kernel
theorem dX12_works_68 : decode cX12_works 68 = .ok (.aload_n 0, 1) := by decide +kernel
theorem dX12_works_69 : decode cX12_works 69 = .ok (.getfield 105, 3) := by decide +kernel
theorem dX12_works_72 : decode cX12_works 72 = .ok (.iload_n 1, 1) := by decide +kernel
theorem dX12_works_73 : decode cX12_works 73 = .ok (.aload_n 0, 1) := by decide +kernel
theorem dX12_works_74 : decode cX12_works 74 = .ok (.getfield 80, 3) := by decide +kernel
theorem dX12_works_77 : decode cX12_works 77 = .ok (.iload_n 1, 1) := by decide +kernel
theorem dX12_works_78 : decode cX12_works 78 = .ok (.iaload, 1) := by decide +kernel
theorem dX12_works_79 : decode cX12_works 79 = .ok (.iconst 2, 1) := by decide +kernel
theorem dX12_works_80 : decode cX12_works 80 = .ok (.if_icmp .ne 15, 3) := by decide +kernel
theorem dX12_works_83 : decode cX12_works 83 = .ok (.aload_n 0, 1) := by decide +kernel
theorem dX12_works_84 : decode cX12_works 84 = .ok (.iload_n 1, 1) := by decide +kernel
theorem dX12_works_85 : decode cX12_works 85 = .ok (.invokevirtual 229, 3) := by decide +kernel
theorem dX12_works_88 : decode cX12_works 88 = .ok (.ifCond .eq 7, 3) := by decide +kernel
theorem dX12_works_91 : decode cX12_works 91 = .ok (.iconst 2, 1) := by decide +kernel
theorem dX12_works_92 : decode cX12_works 92 = .ok (.goto 4, 3) := by decide +kernel
theorem dX12_works_95 : decode cX12_works 95 = .ok (.iconst 0, 1) := by decide +kernel
theorem dX12_works_96 : decode cX12_works 96 = .ok (.iastore, 1) := by decide +kernel
theorem dX12_works_97 : decode cX12_works 97 = .ok (.aload_n 0, 1) := by decide +kernel
theorem dX12_works_98 : decode cX12_works 98 = .ok (.getfield 111, 3) := by decide +kernel
theorem dX12_works_101 : decode cX12_works 101 = .ok (.iload_n 1, 1) := by decide +kernel
theorem dX12_works_102 : decode cX12_works 102 = .ok (.iconst 0, 1) := by decide +kernel
theorem dX12_works_103 : decode cX12_works 103 = .ok (.bastore, 1) := by decide +kernel
theorem dX12_works_104 : decode cX12_works 104 = .ok (.aload_n 0, 1) := by decide +kernel
theorem dX12_works_105 : decode cX12_works 105 = .ok (.getfield 114, 3) := by decide +kernel
theorem dX12_works_108 : decode cX12_works 108 = .ok (.iload_n 1, 1) := by decide +kernel
theorem dX12_works_109 : decode cX12_works 109 = .ok (.iconst 0, 1) := by decide +kernel
theorem dX12_works_110 : decode cX12_works 110 = .ok (.bastore, 1) := by decide +kernel
theorem dX12_works_111 : decode cX12_works 111 = .ok (.iconst 0, 1) := by decide +kernel
theorem dX12_works_112 : decode cX12_works 112 = .ok (.istore_n 2, 1) := by decide +kernel
theorem dX12_works_113 : decode cX12_works 113 = .ok (.iload_n 2, 1) := by decide +kernel
theorem dX12_works_114 : decode cX12_works 114 = .ok (.iconst 3, 1) := by decide +kernel
theorem dX12_works_115 : decode cX12_works 115 = .ok (.if_icmp .ge 43, 3) := by decide +kernel
theorem dX12_works_118 : decode cX12_works 118 = .ok (.aload_n 0, 1) := by decide +kernel
theorem dX12_works_119 : decode cX12_works 119 = .ok (.getfield 108, 3) := by decide +kernel
theorem dX12_works_122 : decode cX12_works 122 = .ok (.iconst 3, 1) := by decide +kernel
theorem dX12_works_123 : decode cX12_works 123 = .ok (.iload_n 1, 1) := by decide +kernel
theorem dX12_works_124 : decode cX12_works 124 = .ok (.imul, 1) := by decide +kernel
theorem dX12_works_125 : decode cX12_works 125 = .ok (.iload_n 2, 1) := by decide +kernel
theorem dX12_works_126 : decode cX12_works 126 = .ok (.iadd, 1) := by decide +kernel
theorem dX12_works_127 : decode cX12_works 127 = .ok (.aload_n 0, 1) := by decide +kernel
theorem dX12_works_128 : decode cX12_works 128 = .ok (.getfield 80, 3) := by decide +kernel
theorem dX12_works_131 : decode cX12_works 131 = .ok (.iload_n 1, 1) := by decide +kernel
theorem dX12_works_132 : decode cX12_works 132 = .ok (.iaload, 1) := by decide +kernel
theorem dX12_works_133 : decode cX12_works 133 = .ok (.iconst 1, 1) := by decide +kernel
theorem dX12_works_134 : decode cX12_works 134 = .ok (.if_icmp .ne 16, 3) := by decide +kernel
theorem dX12_works_137 : decode cX12_works 137 = .ok (.aload_n 0, 1) := by decide +kernel
theorem dX12_works_138 : decode cX12_works 138 = .ok (.getfield 86, 3) := by decide +kernel
theorem dX12_works_141 : decode cX12_works 141 = .ok (.iconst 3, 1) := by decide +kernel
theorem dX12_works_142 : decode cX12_works 142 = .ok (.iload_n 1, 1) := by decide +kernel
theorem dX12_works_143 : decode cX12_works 143 = .ok (.imul, 1) := by decide +kernel
theorem dX12_works_144 : decode cX12_works 144 = .ok (.iload_n 2, 1) := by decide +kernel
theorem dX12_works_145 : decode cX12_works 145 = .ok (.iadd, 1) := by decide +kernel
theorem dX12_works_146 : decode cX12_works 146 = .ok (.iaload, 1) := by decide +kernel
theorem dX12_works_147 : decode cX12_works 147 = .ok (.goto 4, 3) := by decide +kernel
theorem dX12_works_150 : decode cX12_works 150 = .ok (.iconst 0, 1) := by decide +kernel
theorem dX12_works_151 : decode cX12_works 151 = .ok (.iastore, 1) := by decide +kernel
theorem dX12_works_152 : decode cX12_works 152 = .ok (.iinc 2 1, 3) := by decide +kernel
theorem dX12_works_155 : decode cX12_works 155 = .ok (.goto (-42), 3) := by decide +kernel
theorem dX12_works_158 : decode cX12_works 158 = .ok (.iinc 1 1, 3) := by decide +kernel
theorem dX12_works_161 : decode cX12_works 161 = .ok (.goto (-155), 3) := by decide +kernel
theorem dX12_works_164 : decode cX12_works 164 = .ok (.iconst 1, 1) := by decide +kernel
theorem dX12_works_165 : decode cX12_works 165 = .ok (.istore_n 1, 1) := by decide +kernel
theorem dX12_works_166 : decode cX12_works 166 = .ok (.iload_n 1, 1) := by decide +kernel
theorem dX12_works_167 : decode cX12_works 167 = .ok (.ifCond .eq 54, 3) := by decide +kernel
theorem dX12_works_170 : decode cX12_works 170 = .ok (.iconst 0, 1) := by decide +kernel
theorem dX12_works_171 : decode cX12_works 171 = .ok (.istore_n 1, 1) := by decide +kernel
theorem dX12_works_172 : decode cX12_works 172 = .ok (.iconst 0, 1) := by decide +kernel
theorem dX12_works_173 : decode cX12_works 173 = .ok (.istore_n 2, 1) := by decide +kernel
theorem dX12_works_174 : decode cX12_works 174 = .ok (.iload_n 2, 1) := by decide +kernel
theorem dX12_works_175 : decode cX12_works 175 = .ok (.sipush 288, 3) := by decide +kernel
theorem dX12_works_178 : decode cX12_works 178 = .ok (.if_icmp .ge 40, 3) := by decide +kernel
theorem dX12_works_181 : decode cX12_works 181 = .ok (.aload_n 0, 1) := by decide +kernel
theorem dX12_works_182 : decode cX12_works 182 = .ok (.getfield 124, 3) := by decide +kernel
theorem dX12_works_185 : decode cX12_works 185 = .ok (.iload_n 2, 1) := by decide +kernel
theorem dX12_works_186 : decode cX12_works 186 = .ok (.baload, 1) := by decide +kernel
theorem dX12_works_187 : decode cX12_works 187 = .ok (.ifCond .ne 25, 3) := by decide +kernel
theorem dX12_works_190 : decode cX12_works 190 = .ok (.aload_n 0, 1) := by decide +kernel
theorem dX12_works_191 : decode cX12_works 191 = .ok (.iload_n 2, 1) := by decide +kernel
theorem dX12_works_192 : decode cX12_works 192 = .ok (.invokevirtual 232, 3) := by decide +kernel
theorem dX12_works_195 : decode cX12_works 195 = .ok (.ifCond .eq 17, 3) := by decide +kernel
theorem dX12_works_198 : decode cX12_works 198 = .ok (.aload_n 0, 1) := by decide +kernel
theorem dX12_works_199 : decode cX12_works 199 = .ok (.iload_n 2, 1) := by decide +kernel
theorem dX12_works_200 : decode cX12_works 200 = .ok (.invokevirtual 235, 3) := by decide +kernel
theorem dX12_works_203 : decode cX12_works 203 = .ok (.aload_n 0, 1) := by decide +kernel
theorem dX12_works_204 : decode cX12_works 204 = .ok (.getfield 124, 3) := by decide +kernel
theorem dX12_works_207 : decode cX12_works 207 = .ok (.iload_n 2, 1) := by decide +kernel
theorem dX12_works_208 : decode cX12_works 208 = .ok (.iconst 1, 1) := by decide +kernel
theorem dX12_works_209 : decode cX12_works 209 = .ok (.bastore, 1) := by decide +kernel
theorem dX12_works_210 : decode cX12_works 210 = .ok (.iconst 1, 1) := by decide +kernel
theorem dX12_works_211 : decode cX12_works 211 = .ok (.istore_n 1, 1) := by decide +kernel
theorem dX12_works_212 : decode cX12_works 212 = .ok (.iinc 2 1, 3) := by decide +kernel
theorem dX12_works_215 : decode cX12_works 215 = .ok (.goto (-41), 3) := by decide +kernel
theorem dX12_works_218 : decode cX12_works 218 = .ok (.goto (-52), 3) := by decide +kernel
theorem dX12_works_221 : decode cX12_works 221 = .ok (.aload_n 0, 1) := by decide +kernel
theorem dX12_works_222 : decode cX12_works 222 = .ok (.invokevirtual 238, 3) := by decide +kernel
theorem dX12_works_225 : decode cX12_works 225 = .ok (.return_, 1) := by decide +kernel
theorem dX12_isReady_0 : decode cX12_isReady 0 = .ok (.iconst 1, 1) := by decide +kernel
theorem dX12_isReady_1 : decode cX12_isReady 1 = .ok (.istore_n 2, 1) := by decide +kernel
theorem dX12_isReady_2 : decode cX12_isReady 2 = .ok (.iconst 0, 1) := by decide +kernel
theorem dX12_isReady_3 : decode cX12_isReady 3 = .ok (.istore_n 3, 1) := by decide +kernel
theorem dX12_isReady_4 : decode cX12_isReady 4 = .ok (.iload_n 3, 1) := by decide +kernel
theorem dX12_isReady_5 : decode cX12_isReady 5 = .ok (.sipush 288, 3) := by decide +kernel
theorem dX12_isReady_8 : decode cX12_isReady 8 = .ok (.if_icmp .ge 40, 3) := by decide +kernel
theorem dX12_isReady_11 : decode cX12_isReady 11 = .ok (.iload_n 2, 1) := by decide +kernel
theorem dX12_isReady_12 : decode cX12_isReady 12 = .ok (.ifCond .eq 36, 3) := by decide +kernel
theorem dX12_isReady_15 : decode cX12_isReady 15 = .ok (.aload_n 0, 1) := by decide +kernel
theorem dX12_isReady_16 : decode cX12_isReady 16 = .ok (.getfield 124, 3) := by decide +kernel
theorem dX12_isReady_19 : decode cX12_isReady 19 = .ok (.iload_n 3, 1) := by decide +kernel
theorem dX12_isReady_20 : decode cX12_isReady 20 = .ok (.baload, 1) := by decide +kernel
theorem dX12_isReady_21 : decode cX12_isReady 21 = .ok (.ifCond .ne 15, 3) := by decide +kernel
theorem dX12_isReady_24 : decode cX12_isReady 24 = .ok (.aload_n 0, 1) := by decide +kernel
theorem dX12_isReady_25 : decode cX12_isReady 25 = .ok (.getfield 96, 3) := by decide +kernel
theorem dX12_isReady_28 : decode cX12_isReady 28 = .ok (.iload_n 1, 1) := by decide +kernel
theorem dX12_isReady_29 : decode cX12_isReady 29 = .ok (.iload_n 3, 1) := by decide +kernel
theorem dX12_isReady_30 : decode cX12_isReady 30 = .ok (.invokestatic 222, 3) := by decide +kernel
theorem dX12_isReady_33 : decode cX12_isReady 33 = .ok (.ifCond .ne 7, 3) := by decide +kernel
theorem dX12_isReady_36 : decode cX12_isReady 36 = .ok (.iconst 1, 1) := by decide +kernel
theorem dX12_isReady_37 : decode cX12_isReady 37 = .ok (.goto 4, 3) := by decide +kernel
theorem dX12_isReady_40 : decode cX12_isReady 40 = .ok (.iconst 0, 1) := by decide +kernel
theorem dX12_isReady_41 : decode cX12_isReady 41 = .ok (.istore_n 2, 1) := by decide +kernel
theorem dX12_isReady_42 : decode cX12_isReady 42 = .ok (.iinc 3 1, 3) := by decide +kernel
theorem dX12_isReady_45 : decode cX12_isReady 45 = .ok (.goto (-41), 3) := by decide +kernel
theorem dX12_isReady_48 : decode cX12_isReady 48 = .ok (.iload_n 2, 1) := by decide +kernel
theorem dX12_isReady_49 : decode cX12_isReady 49 = .ok (.ireturn, 1) := by decide +kernel
theorem dX12_work_0 : decode cX12_work 0 = .ok (.aload_n 0, 1) := by decide +kernel
theorem dX12_work_1 : decode cX12_work 1 = .ok (.bipush 120, 2) := by decide +kernel
theorem dX12_work_3 : decode cX12_work 3 = .ok (.iload_n 1, 1) := by decide +kernel
theorem dX12_work_4 : decode cX12_work 4 = .ok (.imul, 1) := by decide +kernel
theorem dX12_work_5 : decode cX12_work 5 = .ok (.putfield 241, 3) := by decide +kernel
theorem dX12_work_8 : decode cX12_work 8 = .ok (.aload_n 0, 1) := by decide +kernel
theorem dX12_work_9 : decode cX12_work 9 = .ok (.aload_n 0, 1) := by decide +kernel
theorem dX12_work_10 : decode cX12_work 10 = .ok (.getfield 241, 3) := by decide +kernel
theorem dX12_work_13 : decode cX12_work 13 = .ok (.aload_n 0, 1) := by decide +kernel
theorem dX12_work_14 : decode cX12_work 14 = .ok (.getfield 77, 3) := by decide +kernel
theorem dX12_work_17 : decode cX12_work 17 = .ok (.iload_n 1, 1) := by decide +kernel
theorem dX12_work_18 : decode cX12_work 18 = .ok (.iaload, 1) := by decide +kernel
theorem dX12_work_19 : decode cX12_work 19 = .ok (.iadd, 1) := by decide +kernel
theorem dX12_work_20 : decode cX12_work 20 = .ok (.putfield 244, 3) := by decide +kernel
theorem dX12_work_23 : decode cX12_work 23 = .ok (.aload_n 0, 1) := by decide +kernel
theorem dX12_work_24 : decode cX12_work 24 = .ok (.iconst 0, 1) := by decide +kernel
theorem dX12_work_25 : decode cX12_work 25 = .ok (.putfield 247, 3) := by decide +kernel
theorem dX12_work_28 : decode cX12_work 28 = .ok (.aload_n 0, 1) := by decide +kernel
theorem dX12_work_29 : decode cX12_work 29 = .ok (.invokevirtual 250, 3) := by decide +kernel
theorem dX12_work_32 : decode cX12_work 32 = .ok (.istore_n 2, 1) := by decide +kernel
theorem dX12_work_33 : decode cX12_work 33 = .ok (.aload_n 0, 1) := by decide +kernel
theorem dX12_work_34 : decode cX12_work 34 = .ok (.getfield 102, 3) := by decide +kernel
theorem dX12_work_37 : decode cX12_work 37 = .ok (.iload_n 1, 1) := by decide +kernel
theorem dX12_work_38 : decode cX12_work 38 = .ok (.aload_n 0, 1) := by decide +kernel
theorem dX12_work_39 : decode cX12_work 39 = .ok (.getfield 247, 3) := by decide +kernel
theorem dX12_work_42 : decode cX12_work 42 = .ok (.ifCond .le 7, 3) := by decide +kernel
theorem dX12_work_45 : decode cX12_work 45 = .ok (.iconst 0, 1) := by decide +kernel
theorem dX12_work_46 : decode cX12_work 46 = .ok (.goto 4, 3) := by decide +kernel
theorem dX12_work_49 : decode cX12_work 49 = .ok (.iload_n 2, 1) := by decide +kernel
theorem dX12_work_50 : decode cX12_work 50 = .ok (.iastore, 1) := by decide +kernel
theorem dX12_work_51 : decode cX12_work 51 = .ok (.aload_n 0, 1) := by decide +kernel
theorem dX12_work_52 : decode cX12_work 52 = .ok (.getfield 105, 3) := by decide +kernel
theorem dX12_work_55 : decode cX12_work 55 = .ok (.iload_n 1, 1) := by decide +kernel
theorem dX12_work_56 : decode cX12_work 56 = .ok (.aload_n 0, 1) := by decide +kernel
theorem dX12_work_57 : decode cX12_work 57 = .ok (.getfield 247, 3) := by decide +kernel
theorem dX12_work_60 : decode cX12_work 60 = .ok (.iastore, 1) := by decide +kernel
theorem dX12_work_61 : decode cX12_work 61 = .ok (.aload_n 0, 1) := by decide +kernel
theorem dX12_work_62 : decode cX12_work 62 = .ok (.bipush 120, 2) := by decide +kernel
theorem dX12_work_64 : decode cX12_work 64 = .ok (.iload_n 1, 1) := by decide +kernel
theorem dX12_work_65 : decode cX12_work 65 = .ok (.imul, 1) := by decide +kernel
theorem dX12_work_66 : decode cX12_work 66 = .ok (.putfield 241, 3) := by decide +kernel
theorem dX12_work_69 : decode cX12_work 69 = .ok (.aload_n 0, 1) := by decide +kernel
theorem dX12_work_70 : decode cX12_work 70 = .ok (.iconst 0, 1) := by decide +kernel
theorem dX12_work_71 : decode cX12_work 71 = .ok (.putfield 254, 3) := by decide +kernel
theorem dX12_work_74 : decode cX12_work 74 = .ok (.aload_n 0, 1) := by decide +kernel
theorem dX12_work_75 : decode cX12_work 75 = .ok (.iconst 0, 1) := by decide +kernel
theorem dX12_work_76 : decode cX12_work 76 = .ok (.putfield 258, 3) := by decide +kernel
theorem dX12_work_79 : decode cX12_work 79 = .ok (.aload_n 0, 1) := by decide +kernel
theorem dX12_work_80 : decode cX12_work 80 = .ok (.invokevirtual 261, 3) := by decide +kernel
theorem dX12_work_83 : decode cX12_work 83 = .ok (.iconst 0, 1) := by decide +kernel
theorem dX12_work_84 : decode cX12_work 84 = .ok (.istore_n 3, 1) := by decide +kernel
theorem dX12_work_85 : decode cX12_work 85 = .ok (.iload_n 3, 1) := by decide +kernel
theorem dX12_work_86 : decode cX12_work 86 = .ok (.iconst 3, 1) := by decide +kernel
theorem dX12_work_87 : decode cX12_work 87 = .ok (.if_icmp .ge 25, 3) := by decide +kernel
theorem dX12_work_90 : decode cX12_work 90 = .ok (.aload_n 0, 1) := by decide +kernel
theorem dX12_work_91 : decode cX12_work 91 = .ok (.getfield 108, 3) := by decide +kernel
theorem dX12_work_94 : decode cX12_work 94 = .ok (.iconst 3, 1) := by decide +kernel
theorem dX12_work_95 : decode cX12_work 95 = .ok (.iload_n 1, 1) := by decide +kernel
theorem dX12_work_96 : decode cX12_work 96 = .ok (.imul, 1) := by decide +kernel
theorem dX12_work_97 : decode cX12_work 97 = .ok (.iload_n 3, 1) := by decide +kernel
theorem dX12_work_98 : decode cX12_work 98 = .ok (.iadd, 1) := by decide +kernel
theorem dX12_work_99 : decode cX12_work 99 = .ok (.aload_n 0, 1) := by decide +kernel
theorem dX12_work_100 : decode cX12_work 100 = .ok (.getfield 127, 3) := by decide +kernel
theorem dX12_work_103 : decode cX12_work 103 = .ok (.iload_n 3, 1) := by decide +kernel
theorem dX12_work_104 : decode cX12_work 104 = .ok (.iaload, 1) := by decide +kernel
theorem dX12_work_105 : decode cX12_work 105 = .ok (.iastore, 1) := by decide +kernel
theorem dX12_work_106 : decode cX12_work 106 = .ok (.iinc 3 1, 3) := by decide +kernel
theorem dX12_work_109 : decode cX12_work 109 = .ok (.goto (-24), 3) := by decide +kernel
theorem dX12_work_112 : decode cX12_work 112 = .ok (.aload_n 0, 1) := by decide +kernel
theorem dX12_work_113 : decode cX12_work 113 = .ok (.getfield 111, 3) := by decide +kernel
theorem dX12_work_116 : decode cX12_work 116 = .ok (.iload_n 1, 1) := by decide +kernel
theorem dX12_work_117 : decode cX12_work 117 = .ok (.aload_n 0, 1) := by decide +kernel
theorem dX12_work_118 : decode cX12_work 118 = .ok (.getfield 254, 3) := by decide +kernel
theorem dX12_work_121 : decode cX12_work 121 = .ok (.bastore, 1) := by decide +kernel
theorem dX12_work_122 : decode cX12_work 122 = .ok (.aload_n 0, 1) := by decide +kernel
theorem dX12_work_123 : decode cX12_work 123 = .ok (.getfield 114, 3) := by decide +kernel
theorem dX12_work_126 : decode cX12_work 126 = .ok (.iload_n 1, 1) := by decide +kernel
theorem dX12_work_127 : decode cX12_work 127 = .ok (.aload_n 0, 1) := by decide +kernel
theorem dX12_work_128 : decode cX12_work 128 = .ok (.iload_n 1, 1) := by decide +kernel
theorem dX12_work_129 : decode cX12_work 129 = .ok (.invokevirtual 264, 3) := by decide +kernel
theorem dX12_work_132 : decode cX12_work 132 = .ok (.bastore, 1) := by decide +kernel
theorem dX12_work_133 : decode cX12_work 133 = .ok (.aload_n 0, 1) := by decide +kernel
theorem dX12_work_134 : decode cX12_work 134 = .ok (.getfield 114, 3) := by decide +kernel
theorem dX12_work_137 : decode cX12_work 137 = .ok (.iload_n 1, 1) := by decide +kernel
theorem dX12_work_138 : decode cX12_work 138 = .ok (.baload, 1) := by decide +kernel
theorem dX12_work_139 : decode cX12_work 139 = .ok (.ifCond .eq 8, 3) := by decide +kernel
theorem dX12_work_142 : decode cX12_work 142 = .ok (.aload_n 0, 1) := by decide +kernel
theorem dX12_work_143 : decode cX12_work 143 = .ok (.iload_n 1, 1) := by decide +kernel
theorem dX12_work_144 : decode cX12_work 144 = .ok (.invokevirtual 267, 3) := by decide +kernel
theorem dX12_work_147 : decode cX12_work 147 = .ok (.return_, 1) := by decide +kernel
theorem dX12_isNext_0 : decode cX12_isNext 0 = .ok (.aload_n 0, 1) := by decide +kernel
theorem dX12_isNext_1 : decode cX12_isNext 1 = .ok (.getfield 241, 3) := by decide +kernel
theorem dX12_isNext_4 : decode cX12_isNext 4 = .ok (.aload_n 0, 1) := by decide +kernel
theorem dX12_isNext_5 : decode cX12_isNext 5 = .ok (.getfield 244, 3) := by decide +kernel
theorem dX12_isNext_8 : decode cX12_isNext 8 = .ok (.if_icmp .ge 33, 3) := by decide +kernel
theorem dX12_isNext_11 : decode cX12_isNext 11 = .ok (.aload_n 0, 1) := by decide +kernel
theorem dX12_isNext_12 : decode cX12_isNext 12 = .ok (.getfield 65, 3) := by decide +kernel
theorem dX12_isNext_15 : decode cX12_isNext 15 = .ok (.aload_n 0, 1) := by decide +kernel
theorem dX12_isNext_16 : decode cX12_isNext 16 = .ok (.getfield 241, 3) := by decide +kernel
theorem dX12_isNext_19 : decode cX12_isNext 19 = .ok (.iaload, 1) := by decide +kernel
theorem dX12_isNext_20 : decode cX12_isNext 20 = .ok (.iconst 1, 1) := by decide +kernel
theorem dX12_isNext_21 : decode cX12_isNext 21 = .ok (.if_icmp .ne 20, 3) := by decide +kernel
theorem dX12_isNext_24 : decode cX12_isNext 24 = .ok (.aload_n 0, 1) := by decide +kernel
theorem dX12_isNext_25 : decode cX12_isNext 25 = .ok (.getfield 68, 3) := by decide +kernel
theorem dX12_isNext_28 : decode cX12_isNext 28 = .ok (.aload_n 0, 1) := by decide +kernel
theorem dX12_isNext_29 : decode cX12_isNext 29 = .ok (.getfield 241, 3) := by decide +kernel
theorem dX12_isNext_32 : decode cX12_isNext 32 = .ok (.iaload, 1) := by decide +kernel
theorem dX12_isNext_33 : decode cX12_isNext 33 = .ok (.iload_n 1, 1) := by decide +kernel
theorem dX12_isNext_34 : decode cX12_isNext 34 = .ok (.if_icmp .ne 7, 3) := by decide +kernel
theorem dX12_isNext_37 : decode cX12_isNext 37 = .ok (.iconst 1, 1) := by decide +kernel
theorem dX12_isNext_38 : decode cX12_isNext 38 = .ok (.goto 4, 3) := by decide +kernel
theorem dX12_isNext_41 : decode cX12_isNext 41 = .ok (.iconst 0, 1) := by decide +kernel
theorem dX12_isNext_42 : decode cX12_isNext 42 = .ok (.ireturn, 1) := by decide +kernel
theorem dX12_goE_0 : decode cX12_goE 0 = .ok (.aload_n 0, 1) := by decide +kernel
theorem dX12_goE_1 : decode cX12_goE 1 = .ok (.invokevirtual 270, 3) := by decide +kernel
theorem dX12_goE_4 : decode cX12_goE 4 = .ok (.istore_n 1, 1) := by decide +kernel
theorem dX12_goE_5 : decode cX12_goE 5 = .ok (.aload_n 0, 1) := by decide +kernel
theorem dX12_goE_6 : decode cX12_goE 6 = .ok (.bipush 43, 2) := by decide +kernel
theorem dX12_goE_8 : decode cX12_goE 8 = .ok (.invokevirtual 273, 3) := by decide +kernel
theorem dX12_goE_11 : decode cX12_goE 11 = .ok (.ifCond .ne 12, 3) := by decide +kernel
theorem dX12_goE_14 : decode cX12_goE 14 = .ok (.aload_n 0, 1) := by decide +kernel
theorem dX12_goE_15 : decode cX12_goE 15 = .ok (.bipush 45, 2) := by decide +kernel
theorem dX12_goE_17 : decode cX12_goE 17 = .ok (.invokevirtual 273, 3) := by decide +kernel
theorem dX12_goE_20 : decode cX12_goE 20 = .ok (.ifCond .eq 42, 3) := by decide +kernel
theorem dX12_goE_23 : decode cX12_goE 23 = .ok (.aload_n 0, 1) := by decide +kernel
theorem dX12_goE_24 : decode cX12_goE 24 = .ok (.bipush 43, 2) := by decide +kernel
theorem dX12_goE_26 : decode cX12_goE 26 = .ok (.invokevirtual 273, 3) := by decide +kernel
theorem dX12_goE_29 : decode cX12_goE 29 = .ok (.istore_n 2, 1) := by decide +kernel
theorem dX12_goE_30 : decode cX12_goE 30 = .ok (.aload_n 0, 1) := by decide +kernel
theorem dX12_goE_31 : decode cX12_goE 31 = .ok (.dup, 1) := by decide +kernel
theorem dX12_goE_32 : decode cX12_goE 32 = .ok (.getfield 241, 3) := by decide +kernel
theorem dX12_goE_35 : decode cX12_goE 35 = .ok (.iconst 1, 1) := by decide +kernel
theorem dX12_goE_36 : decode cX12_goE 36 = .ok (.iadd, 1) := by decide +kernel
theorem dX12_goE_37 : decode cX12_goE 37 = .ok (.putfield 241, 3) := by decide +kernel
theorem dX12_goE_40 : decode cX12_goE 40 = .ok (.aload_n 0, 1) := by decide +kernel
theorem dX12_goE_41 : decode cX12_goE 41 = .ok (.invokevirtual 270, 3) := by decide +kernel
theorem dX12_goE_44 : decode cX12_goE 44 = .ok (.istore_n 3, 1) := by decide +kernel
theorem dX12_goE_45 : decode cX12_goE 45 = .ok (.iload_n 2, 1) := by decide +kernel
theorem dX12_goE_46 : decode cX12_goE 46 = .ok (.ifCond .eq 9, 3) := by decide +kernel
theorem dX12_goE_49 : decode cX12_goE 49 = .ok (.iload_n 1, 1) := by decide +kernel
theorem dX12_goE_50 : decode cX12_goE 50 = .ok (.iload_n 3, 1) := by decide +kernel
theorem dX12_goE_51 : decode cX12_goE 51 = .ok (.iadd, 1) := by decide +kernel
theorem dX12_goE_52 : decode cX12_goE 52 = .ok (.goto 6, 3) := by decide +kernel
theorem dX12_goE_55 : decode cX12_goE 55 = .ok (.iload_n 1, 1) := by decide +kernel
theorem dX12_goE_56 : decode cX12_goE 56 = .ok (.iload_n 3, 1) := by decide +kernel
theorem dX12_goE_57 : decode cX12_goE 57 = .ok (.isub, 1) := by decide +kernel
theorem dX12_goE_58 : decode cX12_goE 58 = .ok (.istore_n 1, 1) := by decide +kernel
theorem dX12_goE_59 : decode cX12_goE 59 = .ok (.goto (-54), 3) := by decide +kernel
theorem dX12_goE_62 : decode cX12_goE 62 = .ok (.iload_n 1, 1) := by decide +kernel
theorem dX12_goE_63 : decode cX12_goE 63 = .ok (.ireturn, 1) := by decide +kernel
theorem dX12_goProduct_0 : decode cX12_goProduct 0 = .ok (.aload_n 0, 1) := by decide +kernel
theorem dX12_goProduct_1 : decode cX12_goProduct 1 = .ok (.invokevirtual 276, 3) := by decide +kernel
theorem dX12_goProduct_4 : decode cX12_goProduct 4 = .ok (.istore_n 1, 1) := by decide +kernel
theorem dX12_goProduct_5 : decode cX12_goProduct 5 = .ok (.aload_n 0, 1) := by decide +kernel
theorem dX12_goProduct_6 : decode cX12_goProduct 6 = .ok (.bipush 42, 2) := by decide +kernel
theorem dX12_goProduct_8 : decode cX12_goProduct 8 = .ok (.invokevirtual 273, 3) := by decide +kernel
theorem dX12_goProduct_11 : decode cX12_goProduct 11 = .ok (.ifCond .ne 12, 3) := by decide +kernel
theorem dX12_goProduct_14 : decode cX12_goProduct 14 = .ok (.aload_n 0, 1) := by decide +kernel
theorem dX12_goProduct_15 : decode cX12_goProduct 15 = .ok (.bipush 47, 2) := by decide +kernel
theorem dX12_goProduct_17 : decode cX12_goProduct 17 = .ok (.invokevirtual 273, 3) := by decide +kernel
theorem dX12_goProduct_20 : decode cX12_goProduct 20 = .ok (.ifCond .eq 70, 3) := by decide +kernel
theorem dX12_goProduct_23 : decode cX12_goProduct 23 = .ok (.aload_n 0, 1) := by decide +kernel
theorem dX12_goProduct_24 : decode cX12_goProduct 24 = .ok (.bipush 42, 2) := by decide +kernel
theorem dX12_goProduct_26 : decode cX12_goProduct 26 = .ok (.invokevirtual 273, 3) := by decide +kernel
theorem dX12_goProduct_29 : decode cX12_goProduct 29 = .ok (.istore_n 2, 1) := by decide +kernel
theorem dX12_goProduct_30 : decode cX12_goProduct 30 = .ok (.aload_n 0, 1) := by decide +kernel
theorem dX12_goProduct_31 : decode cX12_goProduct 31 = .ok (.dup, 1) := by decide +kernel
theorem dX12_goProduct_32 : decode cX12_goProduct 32 = .ok (.getfield 241, 3) := by decide +kernel
theorem dX12_goProduct_35 : decode cX12_goProduct 35 = .ok (.iconst 1, 1) := by decide +kernel
theorem dX12_goProduct_36 : decode cX12_goProduct 36 = .ok (.iadd, 1) := by decide +kernel
theorem dX12_goProduct_37 : decode cX12_goProduct 37 = .ok (.putfield 241, 3) := by decide +kernel
theorem dX12_goProduct_40 : decode cX12_goProduct 40 = .ok (.aload_n 0, 1) := by decide +kernel
theorem dX12_goProduct_41 : decode cX12_goProduct 41 = .ok (.invokevirtual 276, 3) := by decide +kernel
theorem dX12_goProduct_44 : decode cX12_goProduct 44 = .ok (.istore_n 3, 1) := by decide +kernel
theorem dX12_goProduct_45 : decode cX12_goProduct 45 = .ok (.iload_n 2, 1) := by decide +kernel
theorem dX12_goProduct_46 : decode cX12_goProduct 46 = .ok (.ifCond .ne 19, 3) := by decide +kernel
theorem dX12_goProduct_49 : decode cX12_goProduct 49 = .ok (.iload_n 3, 1) := by decide +kernel
theorem dX12_goProduct_50 : decode cX12_goProduct 50 = .ok (.ifCond .ne 15, 3) := by decide +kernel
theorem dX12_goProduct_53 : decode cX12_goProduct 53 = .ok (.aload_n 0, 1) := by decide +kernel
theorem dX12_goProduct_54 : decode cX12_goProduct 54 = .ok (.getfield 247, 3) := by decide +kernel
theorem dX12_goProduct_57 : decode cX12_goProduct 57 = .ok (.ifCond .ne 8, 3) := by decide +kernel
theorem dX12_goProduct_60 : decode cX12_goProduct 60 = .ok (.aload_n 0, 1) := by decide +kernel
theorem dX12_goProduct_61 : decode cX12_goProduct 61 = .ok (.iconst 1, 1) := by decide +kernel
theorem dX12_goProduct_62 : decode cX12_goProduct 62 = .ok (.putfield 247, 3) := by decide +kernel
theorem dX12_goProduct_65 : decode cX12_goProduct 65 = .ok (.iload_n 2, 1) := by decide +kernel
theorem dX12_goProduct_66 : decode cX12_goProduct 66 = .ok (.ifCond .eq 9, 3) := by decide +kernel
theorem dX12_goProduct_69 : decode cX12_goProduct 69 = .ok (.iload_n 1, 1) := by decide +kernel
theorem dX12_goProduct_70 : decode cX12_goProduct 70 = .ok (.iload_n 3, 1) := by decide +kernel
theorem dX12_goProduct_71 : decode cX12_goProduct 71 = .ok (.imul, 1) := by decide +kernel
theorem dX12_goProduct_72 : decode cX12_goProduct 72 = .ok (.goto 14, 3) := by decide +kernel
theorem dX12_goProduct_75 : decode cX12_goProduct 75 = .ok (.iload_n 3, 1) := by decide +kernel
theorem dX12_goProduct_76 : decode cX12_goProduct 76 = .ok (.ifCond .ne 7, 3) := by decide +kernel
theorem dX12_goProduct_79 : decode cX12_goProduct 79 = .ok (.iconst 0, 1) := by decide +kernel
theorem dX12_goProduct_80 : decode cX12_goProduct 80 = .ok (.goto 6, 3) := by decide +kernel
theorem dX12_goProduct_83 : decode cX12_goProduct 83 = .ok (.iload_n 1, 1) := by decide +kernel
theorem dX12_goProduct_84 : decode cX12_goProduct 84 = .ok (.iload_n 3, 1) := by decide +kernel
theorem dX12_goProduct_85 : decode cX12_goProduct 85 = .ok (.idiv, 1) := by decide +kernel
theorem dX12_goProduct_86 : decode cX12_goProduct 86 = .ok (.istore_n 1, 1) := by decide +kernel
theorem dX12_goProduct_87 : decode cX12_goProduct 87 = .ok (.goto (-82), 3) := by decide +kernel
theorem dX12_goProduct_90 : decode cX12_goProduct 90 = .ok (.iload_n 1, 1) := by decide +kernel
theorem dX12_goProduct_91 : decode cX12_goProduct 91 = .ok (.ireturn, 1) := by decide +kernel
theorem dX12_goPart_0 : decode cX12_goPart 0 = .ok (.aload_n 0, 1) := by decide +kernel
theorem dX12_goPart_1 : decode cX12_goPart 1 = .ok (.getfield 241, 3) := by decide +kernel
theorem dX12_goPart_4 : decode cX12_goPart 4 = .ok (.istore_n 1, 1) := by decide +kernel
theorem dX12_goPart_5 : decode cX12_goPart 5 = .ok (.aload_n 0, 1) := by decide +kernel
theorem dX12_goPart_6 : decode cX12_goPart 6 = .ok (.dup, 1) := by decide +kernel
theorem dX12_goPart_7 : decode cX12_goPart 7 = .ok (.getfield 241, 3) := by decide +kernel
theorem dX12_goPart_10 : decode cX12_goPart 10 = .ok (.iconst 1, 1) := by decide +kernel
