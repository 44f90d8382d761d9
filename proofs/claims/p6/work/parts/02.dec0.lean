theorem dX9_init_0 : decode cX9_init 0 = .ok (.aload_n 0, 1) := by decide +kernel
theorem dX9_init_1 : decode cX9_init 1 = .ok (.invokespecial 3, 3) := by decide +kernel
theorem dX9_init_4 : decode cX9_init 4 = .ok (.aload_n 0, 1) := by decide +kernel
theorem dX9_init_5 : decode cX9_init 5 = .ok (.bipush 119, 2) := by decide +kernel
theorem dX9_init_7 : decode cX9_init 7 = .ok (.newarray .int, 2) := by decide +kernel
theorem dX9_init_9 : decode cX9_init 9 = .ok (.putfield 9, 3) := by decide +kernel
theorem dX9_init_12 : decode cX9_init 12 = .ok (.aload_n 0, 1) := by decide +kernel
theorem dX9_init_13 : decode cX9_init 13 = .ok (.sipush 357, 3) := by decide +kernel
theorem dX9_init_16 : decode cX9_init 16 = .ok (.newarray .int, 2) := by decide +kernel
theorem dX9_init_18 : decode cX9_init 18 = .ok (.putfield 13, 3) := by decide +kernel
theorem dX9_init_21 : decode cX9_init 21 = .ok (.aload_n 0, 1) := by decide +kernel
theorem dX9_init_22 : decode cX9_init 22 = .ok (.iconst 3, 1) := by decide +kernel
theorem dX9_init_23 : decode cX9_init 23 = .ok (.newarray .boolean, 2) := by decide +kernel
theorem dX9_init_25 : decode cX9_init 25 = .ok (.putfield 16, 3) := by decide +kernel
theorem dX9_init_28 : decode cX9_init 28 = .ok (.aload_n 0, 1) := by decide +kernel
theorem dX9_init_29 : decode cX9_init 29 = .ok (.sipush 900, 3) := by decide +kernel
theorem dX9_init_32 : decode cX9_init 32 = .ok (.newarray .byte, 2) := by decide +kernel
theorem dX9_init_34 : decode cX9_init 34 = .ok (.putfield 20, 3) := by decide +kernel
theorem dX9_init_37 : decode cX9_init 37 = .ok (.aload_n 0, 1) := by decide +kernel
theorem dX9_init_38 : decode cX9_init 38 = .ok (.iconst 5, 1) := by decide +kernel
theorem dX9_init_39 : decode cX9_init 39 = .ok (.newarray .int, 2) := by decide +kernel
theorem dX9_init_41 : decode cX9_init 41 = .ok (.putfield 24, 3) := by decide +kernel
theorem dX9_init_44 : decode cX9_init 44 = .ok (.aload_n 0, 1) := by decide +kernel
theorem dX9_init_45 : decode cX9_init 45 = .ok (.iconst (-1), 1) := by decide +kernel
theorem dX9_init_46 : decode cX9_init 46 = .ok (.putfield 27, 3) := by decide +kernel
theorem dX9_init_49 : decode cX9_init 49 = .ok (.aload_n 0, 1) := by decide +kernel
theorem dX9_init_50 : decode cX9_init 50 = .ok (.bipush 119, 2) := by decide +kernel
theorem dX9_init_52 : decode cX9_init 52 = .ok (.newarray .int, 2) := by decide +kernel
theorem dX9_init_54 : decode cX9_init 54 = .ok (.putfield 31, 3) := by decide +kernel
theorem dX9_init_57 : decode cX9_init 57 = .ok (.aload_n 0, 1) := by decide +kernel
theorem dX9_init_58 : decode cX9_init 58 = .ok (.bipush 30, 2) := by decide +kernel
theorem dX9_init_60 : decode cX9_init 60 = .ok (.newarray .int, 2) := by decide +kernel
theorem dX9_init_62 : decode cX9_init 62 = .ok (.putfield 34, 3) := by decide +kernel
theorem dX9_init_65 : decode cX9_init 65 = .ok (.aload_n 0, 1) := by decide +kernel
theorem dX9_init_66 : decode cX9_init 66 = .ok (.bipush 6, 2) := by decide +kernel
theorem dX9_init_68 : decode cX9_init 68 = .ok (.newarray .int, 2) := by decide +kernel
theorem dX9_init_70 : decode cX9_init 70 = .ok (.putfield 37, 3) := by decide +kernel
theorem dX9_init_73 : decode cX9_init 73 = .ok (.aload_n 0, 1) := by decide +kernel
theorem dX9_init_74 : decode cX9_init 74 = .ok (.bipush 6, 2) := by decide +kernel
theorem dX9_init_76 : decode cX9_init 76 = .ok (.newarray .int, 2) := by decide +kernel
theorem dX9_init_78 : decode cX9_init 78 = .ok (.putfield 40, 3) := by decide +kernel
theorem dX9_init_81 : decode cX9_init 81 = .ok (.aload_n 0, 1) := by decide +kernel
theorem dX9_init_82 : decode cX9_init 82 = .ok (.bipush 6, 2) := by decide +kernel
theorem dX9_init_84 : decode cX9_init 84 = .ok (.newarray .int, 2) := by decide +kernel
theorem dX9_init_86 : decode cX9_init 86 = .ok (.putfield 43, 3) := by decide +kernel
theorem dX9_init_89 : decode cX9_init 89 = .ok (.aload_n 0, 1) := by decide +kernel
theorem dX9_init_90 : decode cX9_init 90 = .ok (.bipush 30, 2) := by decide +kernel
theorem dX9_init_92 : decode cX9_init 92 = .ok (.newarray .int, 2) := by decide +kernel
theorem dX9_init_94 : decode cX9_init 94 = .ok (.putfield 46, 3) := by decide +kernel
theorem dX9_init_97 : decode cX9_init 97 = .ok (.aload_n 0, 1) := by decide +kernel
theorem dX9_init_98 : decode cX9_init 98 = .ok (.sipush 180, 3) := by decide +kernel
theorem dX9_init_101 : decode cX9_init 101 = .ok (.newarray .int, 2) := by decide +kernel
theorem dX9_init_103 : decode cX9_init 103 = .ok (.putfield 49, 3) := by decide +kernel
theorem dX9_init_106 : decode cX9_init 106 = .ok (.aload_n 0, 1) := by decide +kernel
theorem dX9_init_107 : decode cX9_init 107 = .ok (.sipush 180, 3) := by decide +kernel
theorem dX9_init_110 : decode cX9_init 110 = .ok (.newarray .int, 2) := by decide +kernel
theorem dX9_init_112 : decode cX9_init 112 = .ok (.putfield 52, 3) := by decide +kernel
theorem dX9_init_115 : decode cX9_init 115 = .ok (.aload_n 0, 1) := by decide +kernel
theorem dX9_init_116 : decode cX9_init 116 = .ok (.bipush 6, 2) := by decide +kernel
theorem dX9_init_118 : decode cX9_init 118 = .ok (.newarray .int, 2) := by decide +kernel
theorem dX9_init_120 : decode cX9_init 120 = .ok (.putfield 55, 3) := by decide +kernel
theorem dX9_init_123 : decode cX9_init 123 = .ok (.aload_n 0, 1) := by decide +kernel
theorem dX9_init_124 : decode cX9_init 124 = .ok (.bipush 6, 2) := by decide +kernel
theorem dX9_init_126 : decode cX9_init 126 = .ok (.newarray .int, 2) := by decide +kernel
theorem dX9_init_128 : decode cX9_init 128 = .ok (.putfield 58, 3) := by decide +kernel
theorem dX9_init_131 : decode cX9_init 131 = .ok (.aload_n 0, 1) := by decide +kernel
theorem dX9_init_132 : decode cX9_init 132 = .ok (.bipush 30, 2) := by decide +kernel
theorem dX9_init_134 : decode cX9_init 134 = .ok (.newarray .int, 2) := by decide +kernel
theorem dX9_init_136 : decode cX9_init 136 = .ok (.putfield 61, 3) := by decide +kernel
theorem dX9_init_139 : decode cX9_init 139 = .ok (.aload_n 0, 1) := by decide +kernel
theorem dX9_init_140 : decode cX9_init 140 = .ok (.sipush 961, 3) := by decide +kernel
theorem dX9_init_143 : decode cX9_init 143 = .ok (.newarray .int, 2) := by decide +kernel
theorem dX9_init_145 : decode cX9_init 145 = .ok (.putfield 64, 3) := by decide +kernel
theorem dX9_init_148 : decode cX9_init 148 = .ok (.aload_n 0, 1) := by decide +kernel
theorem dX9_init_149 : decode cX9_init 149 = .ok (.sipush 961, 3) := by decide +kernel
theorem dX9_init_152 : decode cX9_init 152 = .ok (.newarray .int, 2) := by decide +kernel
theorem dX9_init_154 : decode cX9_init 154 = .ok (.putfield 67, 3) := by decide +kernel
theorem dX9_init_157 : decode cX9_init 157 = .ok (.aload_n 0, 1) := by decide +kernel
theorem dX9_init_158 : decode cX9_init 158 = .ok (.sipush 270, 3) := by decide +kernel
theorem dX9_init_161 : decode cX9_init 161 = .ok (.newarray .int, 2) := by decide +kernel
theorem dX9_init_163 : decode cX9_init 163 = .ok (.putfield 70, 3) := by decide +kernel
theorem dX9_init_166 : decode cX9_init 166 = .ok (.aload_n 0, 1) := by decide +kernel
theorem dX9_init_167 : decode cX9_init 167 = .ok (.sipush 1620, 3) := by decide +kernel
theorem dX9_init_170 : decode cX9_init 170 = .ok (.newarray .int, 2) := by decide +kernel
theorem dX9_init_172 : decode cX9_init 172 = .ok (.putfield 73, 3) := by decide +kernel
theorem dX9_init_175 : decode cX9_init 175 = .ok (.aload_n 0, 1) := by decide +kernel
theorem dX9_init_176 : decode cX9_init 176 = .ok (.iconst 4, 1) := by decide +kernel
theorem dX9_init_177 : decode cX9_init 177 = .ok (.newarray .int, 2) := by decide +kernel
theorem dX9_init_179 : decode cX9_init 179 = .ok (.dup, 1) := by decide +kernel
theorem dX9_init_180 : decode cX9_init 180 = .ok (.iconst 0, 1) := by decide +kernel
theorem dX9_init_181 : decode cX9_init 181 = .ok (.iconst (-1), 1) := by decide +kernel
theorem dX9_init_182 : decode cX9_init 182 = .ok (.iastore, 1) := by decide +kernel
theorem dX9_init_183 : decode cX9_init 183 = .ok (.dup, 1) := by decide +kernel
theorem dX9_init_184 : decode cX9_init 184 = .ok (.iconst 1, 1) := by decide +kernel
theorem dX9_init_185 : decode cX9_init 185 = .ok (.iconst (-1), 1) := by decide +kernel
theorem dX9_init_186 : decode cX9_init 186 = .ok (.iastore, 1) := by decide +kernel
theorem dX9_init_187 : decode cX9_init 187 = .ok (.dup, 1) := by decide +kernel
theorem dX9_init_188 : decode cX9_init 188 = .ok (.iconst 2, 1) := by decide +kernel
theorem dX9_init_189 : decode cX9_init 189 = .ok (.iconst (-1), 1) := by decide +kernel
theorem dX9_init_190 : decode cX9_init 190 = .ok (.iastore, 1) := by decide +kernel
theorem dX9_init_191 : decode cX9_init 191 = .ok (.dup, 1) := by decide +kernel
theorem dX9_init_192 : decode cX9_init 192 = .ok (.iconst 3, 1) := by decide +kernel
theorem dX9_init_193 : decode cX9_init 193 = .ok (.iconst (-1), 1) := by decide +kernel
theorem dX9_init_194 : decode cX9_init 194 = .ok (.iastore, 1) := by decide +kernel
theorem dX9_init_195 : decode cX9_init 195 = .ok (.putfield 76, 3) := by decide +kernel
theorem dX9_init_198 : decode cX9_init 198 = .ok (.aload_n 0, 1) := by decide +kernel
theorem dX9_init_199 : decode cX9_init 199 = .ok (.iconst 4, 1) := by decide +kernel
theorem dX9_init_200 : decode cX9_init 200 = .ok (.newarray .int, 2) := by decide +kernel
theorem dX9_init_202 : decode cX9_init 202 = .ok (.putfield 79, 3) := by decide +kernel
theorem dX9_init_205 : decode cX9_init 205 = .ok (.aload_n 0, 1) := by decide +kernel
theorem dX9_init_206 : decode cX9_init 206 = .ok (.sipush 240, 3) := by decide +kernel
theorem dX9_init_209 : decode cX9_init 209 = .ok (.newarray .long, 2) := by decide +kernel
theorem dX9_init_211 : decode cX9_init 211 = .ok (.putfield 82, 3) := by decide +kernel
theorem dX9_init_214 : decode cX9_init 214 = .ok (.aload_n 0, 1) := by decide +kernel
theorem dX9_init_215 : decode cX9_init 215 = .ok (.bipush 60, 2) := by decide +kernel
theorem dX9_init_217 : decode cX9_init 217 = .ok (.newarray .long, 2) := by decide +kernel
theorem dX9_init_219 : decode cX9_init 219 = .ok (.putfield 86, 3) := by decide +kernel
theorem dX9_init_222 : decode cX9_init 222 = .ok (.return_, 1) := by decide +kernel
theorem dX9_in_0 : decode cX9_in 0 = .ok (.lload_n 0, 1) := by decide +kernel
theorem dX9_in_1 : decode cX9_in 1 = .ok (.lload_n 2, 1) := by decide +kernel
theorem dX9_in_2 : decode cX9_in 2 = .ok (.lcmp, 1) := by decide +kernel
theorem dX9_in_3 : decode cX9_in 3 = .ok (.ifCond .lt 14, 3) := by decide +kernel
theorem dX9_in_6 : decode cX9_in 6 = .ok (.lload_n 0, 1) := by decide +kernel
theorem dX9_in_7 : decode cX9_in 7 = .ok (.lload 4, 2) := by decide +kernel
theorem dX9_in_9 : decode cX9_in 9 = .ok (.lcmp, 1) := by decide +kernel
theorem dX9_in_10 : decode cX9_in 10 = .ok (.ifCond .gt 7, 3) := by decide +kernel
theorem dX9_in_13 : decode cX9_in 13 = .ok (.iconst 1, 1) := by decide +kernel
theorem dX9_in_14 : decode cX9_in 14 = .ok (.goto 4, 3) := by decide +kernel
theorem dX9_in_17 : decode cX9_in 17 = .ok (.iconst 0, 1) := by decide +kernel
theorem dX9_in_18 : decode cX9_in 18 = .ok (.ireturn, 1) := by decide +kernel
theorem dX9_bits_0 : decode cX9_bits 0 = .ok (.iconst 0, 1) := by decide +kernel
theorem dX9_bits_1 : decode cX9_bits 1 = .ok (.istore_n 1, 1) := by decide +kernel
theorem dX9_bits_2 : decode cX9_bits 2 = .ok (.iconst 0, 1) := by decide +kernel
theorem dX9_bits_3 : decode cX9_bits 3 = .ok (.istore_n 2, 1) := by decide +kernel
theorem dX9_bits_4 : decode cX9_bits 4 = .ok (.iload_n 2, 1) := by decide +kernel
theorem dX9_bits_5 : decode cX9_bits 5 = .ok (.bipush 30, 2) := by decide +kernel
theorem dX9_bits_7 : decode cX9_bits 7 = .ok (.if_icmp .ge 17, 3) := by decide +kernel
theorem dX9_bits_10 : decode cX9_bits 10 = .ok (.iload_n 1, 1) := by decide +kernel
theorem dX9_bits_11 : decode cX9_bits 11 = .ok (.iload_n 0, 1) := by decide +kernel
theorem dX9_bits_12 : decode cX9_bits 12 = .ok (.iload_n 2, 1) := by decide +kernel
theorem dX9_bits_13 : decode cX9_bits 13 = .ok (.ishr, 1) := by decide +kernel
theorem dX9_bits_14 : decode cX9_bits 14 = .ok (.iconst 1, 1) := by decide +kernel
theorem dX9_bits_15 : decode cX9_bits 15 = .ok (.iand, 1) := by decide +kernel
theorem dX9_bits_16 : decode cX9_bits 16 = .ok (.iadd, 1) := by decide +kernel
theorem dX9_bits_17 : decode cX9_bits 17 = .ok (.istore_n 1, 1) := by decide +kernel
theorem dX9_bits_18 : decode cX9_bits 18 = .ok (.iinc 2 1, 3) := by decide +kernel
theorem dX9_bits_21 : decode cX9_bits 21 = .ok (.goto (-17), 3) := by decide +kernel
theorem dX9_bits_24 : decode cX9_bits 24 = .ok (.iload_n 1, 1) := by decide +kernel
theorem dX9_bits_25 : decode cX9_bits 25 = .ok (.ireturn, 1) := by decide +kernel
theorem dX9_bit_0 : decode cX9_bit 0 = .ok (.iload_n 0, 1) := by decide +kernel
theorem dX9_bit_1 : decode cX9_bit 1 = .ok (.iload_n 1, 1) := by decide +kernel
theorem dX9_bit_2 : decode cX9_bit 2 = .ok (.ishr, 1) := by decide +kernel
theorem dX9_bit_3 : decode cX9_bit 3 = .ok (.iconst 1, 1) := by decide +kernel
theorem dX9_bit_4 : decode cX9_bit 4 = .ok (.iand, 1) := by decide +kernel
theorem dX9_bit_5 : decode cX9_bit 5 = .ok (.ireturn, 1) := by decide +kernel
theorem dX9_image_0 : decode cX9_image 0 = .ok (.iload_n 1, 1) := by decide +kernel
theorem dX9_image_1 : decode cX9_image 1 = .ok (.i2l, 1) := by decide +kernel
theorem dX9_image_2 : decode cX9_image 2 = .ok (.lconst 0, 1) := by decide +kernel
theorem dX9_image_3 : decode cX9_image 3 = .ok (.ldc2_w 92, 3) := by decide +kernel
theorem dX9_image_6 : decode cX9_image 6 = .ok (.invokestatic 94, 3) := by decide +kernel
theorem dX9_image_9 : decode cX9_image 9 = .ok (.ifCond .ne 6, 3) := by decide +kernel
theorem dX9_image_12 : decode cX9_image 12 = .ok (.bipush (-2), 2) := by decide +kernel
theorem dX9_image_14 : decode cX9_image 14 = .ok (.ireturn, 1) := by decide +kernel
theorem dX9_image_15 : decode cX9_image 15 = .ok (.iconst 0, 1) := by decide +kernel
theorem dX9_image_16 : decode cX9_image 16 = .ok (.istore_n 2, 1) := by decide +kernel
theorem dX9_image_17 : decode cX9_image 17 = .ok (.iload_n 2, 1) := by decide +kernel
theorem dX9_image_18 : decode cX9_image 18 = .ok (.bipush 119, 2) := by decide +kernel
theorem dX9_image_20 : decode cX9_image 20 = .ok (.if_icmp .ge 26, 3) := by decide +kernel
theorem dX9_image_23 : decode cX9_image 23 = .ok (.aload_n 0, 1) := by decide +kernel
theorem dX9_image_24 : decode cX9_image 24 = .ok (.getfield 13, 3) := by decide +kernel
theorem dX9_image_27 : decode cX9_image 27 = .ok (.bipush 119, 2) := by decide +kernel
theorem dX9_image_29 : decode cX9_image 29 = .ok (.iload_n 1, 1) := by decide +kernel
theorem dX9_image_30 : decode cX9_image 30 = .ok (.imul, 1) := by decide +kernel
theorem dX9_image_31 : decode cX9_image 31 = .ok (.iload_n 2, 1) := by decide +kernel
theorem dX9_image_32 : decode cX9_image 32 = .ok (.iadd, 1) := by decide +kernel
theorem dX9_image_33 : decode cX9_image 33 = .ok (.aload_n 0, 1) := by decide +kernel
theorem dX9_image_34 : decode cX9_image 34 = .ok (.getfield 9, 3) := by decide +kernel
theorem dX9_image_37 : decode cX9_image 37 = .ok (.iload_n 2, 1) := by decide +kernel
theorem dX9_image_38 : decode cX9_image 38 = .ok (.iaload, 1) := by decide +kernel
theorem dX9_image_39 : decode cX9_image 39 = .ok (.iastore, 1) := by decide +kernel
theorem dX9_image_40 : decode cX9_image 40 = .ok (.iinc 2 1, 3) := by decide +kernel
theorem dX9_image_43 : decode cX9_image 43 = .ok (.goto (-26), 3) := by decide +kernel
theorem dX9_image_46 : decode cX9_image 46 = .ok (.aload_n 0, 1) := by decide +kernel
theorem dX9_image_47 : decode cX9_image 47 = .ok (.getfield 16, 3) := by decide +kernel
theorem dX9_image_50 : decode cX9_image 50 = .ok (.iload_n 1, 1) := by decide +kernel
theorem dX9_image_51 : decode cX9_image 51 = .ok (.iconst 1, 1) := by decide +kernel
theorem dX9_image_52 : decode cX9_image 52 = .ok (.bastore, 1) := by decide +kernel
theorem dX9_image_53 : decode cX9_image 53 = .ok (.iconst 0, 1) := by decide +kernel
theorem dX9_image_54 : decode cX9_image 54 = .ok (.ireturn, 1) := by decide +kernel
theorem dX9_back_0 : decode cX9_back 0 = .ok (.iload_n 1, 1) := by decide +kernel
theorem dX9_back_1 : decode cX9_back 1 = .ok (.i2l, 1) := by decide +kernel
theorem dX9_back_2 : decode cX9_back 2 = .ok (.lconst 0, 1) := by decide +kernel
theorem dX9_back_3 : decode cX9_back 3 = .ok (.ldc2_w 92, 3) := by decide +kernel
theorem dX9_back_6 : decode cX9_back 6 = .ok (.invokestatic 94, 3) := by decide +kernel
theorem dX9_back_9 : decode cX9_back 9 = .ok (.ifCond .ne 6, 3) := by decide +kernel
theorem dX9_back_12 : decode cX9_back 12 = .ok (.bipush (-2), 2) := by decide +kernel
theorem dX9_back_14 : decode cX9_back 14 = .ok (.ireturn, 1) := by decide +kernel
theorem dX9_back_15 : decode cX9_back 15 = .ok (.aload_n 0, 1) := by decide +kernel
theorem dX9_back_16 : decode cX9_back 16 = .ok (.getfield 16, 3) := by decide +kernel
theorem dX9_back_19 : decode cX9_back 19 = .ok (.iload_n 1, 1) := by decide +kernel
theorem dX9_back_20 : decode cX9_back 20 = .ok (.baload, 1) := by decide +kernel
theorem dX9_back_21 : decode cX9_back 21 = .ok (.ifCond .ne 6, 3) := by decide +kernel
theorem dX9_back_24 : decode cX9_back 24 = .ok (.bipush (-6), 2) := by decide +kernel
theorem dX9_back_26 : decode cX9_back 26 = .ok (.ireturn, 1) := by decide +kernel
theorem dX9_back_27 : decode cX9_back 27 = .ok (.iconst 0, 1) := by decide +kernel
theorem dX9_back_28 : decode cX9_back 28 = .ok (.istore_n 2, 1) := by decide +kernel
theorem dX9_back_29 : decode cX9_back 29 = .ok (.iload_n 2, 1) := by decide +kernel
theorem dX9_back_30 : decode cX9_back 30 = .ok (.bipush 119, 2) := by decide +kernel
theorem dX9_back_32 : decode cX9_back 32 = .ok (.if_icmp .ge 26, 3) := by decide +kernel
theorem dX9_back_35 : decode cX9_back 35 = .ok (.aload_n 0, 1) := by decide +kernel
theorem dX9_back_36 : decode cX9_back 36 = .ok (.getfield 9, 3) := by decide +kernel
theorem dX9_back_39 : decode cX9_back 39 = .ok (.iload_n 2, 1) := by decide +kernel
theorem dX9_back_40 : decode cX9_back 40 = .ok (.aload_n 0, 1) := by decide +kernel
theorem dX9_back_41 : decode cX9_back 41 = .ok (.getfield 13, 3) := by decide +kernel
theorem dX9_back_44 : decode cX9_back 44 = .ok (.bipush 119, 2) := by decide +kernel
theorem dX9_back_46 : decode cX9_back 46 = .ok (.iload_n 1, 1) := by decide +kernel
theorem dX9_back_47 : decode cX9_back 47 = .ok (.imul, 1) := by decide +kernel
theorem dX9_back_48 : decode cX9_back 48 = .ok (.iload_n 2, 1) := by decide +kernel
theorem dX9_back_49 : decode cX9_back 49 = .ok (.iadd, 1) := by decide +kernel
theorem dX9_back_50 : decode cX9_back 50 = .ok (.iaload, 1) := by decide +kernel
theorem dX9_back_51 : decode cX9_back 51 = .ok (.iastore, 1) := by decide +kernel
theorem dX9_back_52 : decode cX9_back 52 = .ok (.iinc 2 1, 3) := by decide +kernel
theorem dX9_back_55 : decode cX9_back 55 = .ok (.goto (-26), 3) := by decide +kernel
theorem dX9_back_58 : decode cX9_back 58 = .ok (.iconst 0, 1) := by decide +kernel
theorem dX9_back_59 : decode cX9_back 59 = .ok (.ireturn, 1) := by decide +kernel
theorem dX9_isHouse_0 : decode cX9_isHouse 0 = .ok (.aload_n 0, 1) := by decide +kernel
theorem dX9_isHouse_1 : decode cX9_isHouse 1 = .ok (.getfield 9, 3) := by decide +kernel
theorem dX9_isHouse_4 : decode cX9_isHouse 4 = .ok (.bipush 10, 2) := by decide +kernel
theorem dX9_isHouse_6 : decode cX9_isHouse 6 = .ok (.iaload, 1) := by decide +kernel
theorem dX9_isHouse_7 : decode cX9_isHouse 7 = .ok (.ifCond .le 7, 3) := by decide +kernel
theorem dX9_isHouse_10 : decode cX9_isHouse 10 = .ok (.iconst 1, 1) := by decide +kernel
theorem dX9_isHouse_11 : decode cX9_isHouse 11 = .ok (.goto 4, 3) := by decide +kernel
theorem dX9_isHouse_14 : decode cX9_isHouse 14 = .ok (.iconst 0, 1) := by decide +kernel
theorem dX9_isHouse_15 : decode cX9_isHouse 15 = .ok (.ireturn, 1) := by decide +kernel
theorem dX9_isMinute_0 : decode cX9_isMinute 0 = .ok (.lload_n 1, 1) := by decide +kernel
theorem dX9_isMinute_1 : decode cX9_isMinute 1 = .ok (.lconst 0, 1) := by decide +kernel
theorem dX9_isMinute_2 : decode cX9_isMinute 2 = .ok (.aload_n 0, 1) := by decide +kernel
theorem dX9_isMinute_3 : decode cX9_isMinute 3 = .ok (.getfield 9, 3) := by decide +kernel
theorem dX9_isMinute_6 : decode cX9_isMinute 6 = .ok (.iconst 0, 1) := by decide +kernel
theorem dX9_isMinute_7 : decode cX9_isMinute 7 = .ok (.iaload, 1) := by decide +kernel
theorem dX9_isMinute_8 : decode cX9_isMinute 8 = .ok (.iconst 1, 1) := by decide +kernel
theorem dX9_isMinute_9 : decode cX9_isMinute 9 = .ok (.isub, 1) := by decide +kernel
theorem dX9_isMinute_10 : decode cX9_isMinute 10 = .ok (.i2l, 1) := by decide +kernel
theorem dX9_isMinute_11 : decode cX9_isMinute 11 = .ok (.invokestatic 94, 3) := by decide +kernel
theorem dX9_isMinute_14 : decode cX9_isMinute 14 = .ok (.ireturn, 1) := by decide +kernel
theorem dX9_isPerson_0 : decode cX9_isPerson 0 = .ok (.lload_n 1, 1) := by decide +kernel
theorem dX9_isPerson_1 : decode cX9_isPerson 1 = .ok (.lconst 0, 1) := by decide +kernel
theorem dX9_isPerson_2 : decode cX9_isPerson 2 = .ok (.aload_n 0, 1) := by decide +kernel
theorem dX9_isPerson_3 : decode cX9_isPerson 3 = .ok (.getfield 9, 3) := by decide +kernel
theorem dX9_isPerson_6 : decode cX9_isPerson 6 = .ok (.iconst 5, 1) := by decide +kernel
theorem dX9_isPerson_7 : decode cX9_isPerson 7 = .ok (.iaload, 1) := by decide +kernel
theorem dX9_isPerson_8 : decode cX9_isPerson 8 = .ok (.iconst 1, 1) := by decide +kernel
theorem dX9_isPerson_9 : decode cX9_isPerson 9 = .ok (.isub, 1) := by decide +kernel
theorem dX9_isPerson_10 : decode cX9_isPerson 10 = .ok (.i2l, 1) := by decide +kernel
theorem dX9_isPerson_11 : decode cX9_isPerson 11 = .ok (.invokestatic 94, 3) := by decide +kernel
theorem dX9_isPerson_14 : decode cX9_isPerson 14 = .ok (.ireturn, 1) := by decide +kernel
theorem dX9_isPolicy_0 : decode cX9_isPolicy 0 = .ok (.iload_n 1, 1) := by decide +kernel
theorem dX9_isPolicy_1 : decode cX9_isPolicy 1 = .ok (.i2l, 1) := by decide +kernel
theorem dX9_isPolicy_2 : decode cX9_isPolicy 2 = .ok (.lconst 0, 1) := by decide +kernel
theorem dX9_isPolicy_3 : decode cX9_isPolicy 3 = .ok (.aload_n 0, 1) := by decide +kernel
theorem dX9_isPolicy_4 : decode cX9_isPolicy 4 = .ok (.getfield 9, 3) := by decide +kernel
theorem dX9_isPolicy_7 : decode cX9_isPolicy 7 = .ok (.bipush 8, 2) := by decide +kernel
theorem dX9_isPolicy_9 : decode cX9_isPolicy 9 = .ok (.iaload, 1) := by decide +kernel
theorem dX9_isPolicy_10 : decode cX9_isPolicy 10 = .ok (.iconst 1, 1) := by decide +kernel
theorem dX9_isPolicy_11 : decode cX9_isPolicy 11 = .ok (.isub, 1) := by decide +kernel
theorem dX9_isPolicy_12 : decode cX9_isPolicy 12 = .ok (.i2l, 1) := by decide +kernel
theorem dX9_isPolicy_13 : decode cX9_isPolicy 13 = .ok (.invokestatic 94, 3) := by decide +kernel
theorem dX9_isPolicy_16 : decode cX9_isPolicy 16 = .ok (.ireturn, 1) := by decide +kernel
theorem dX9_isLaw_0 : decode cX9_isLaw 0 = .ok (.iload_n 0, 1) := by decide +kernel
theorem dX9_isLaw_1 : decode cX9_isLaw 1 = .ok (.i2l, 1) := by decide +kernel
theorem dX9_isLaw_2 : decode cX9_isLaw 2 = .ok (.lconst 0, 1) := by decide +kernel
theorem dX9_isLaw_3 : decode cX9_isLaw 3 = .ok (.ldc2_w 98, 3) := by decide +kernel
theorem dX9_isLaw_6 : decode cX9_isLaw 6 = .ok (.invokestatic 94, 3) := by decide +kernel
theorem dX9_isLaw_9 : decode cX9_isLaw 9 = .ok (.ireturn, 1) := by decide +kernel
theorem dX9_of_0 : decode cX9_of 0 = .ok (.aload_n 0, 1) := by decide +kernel
theorem dX9_of_1 : decode cX9_of 1 = .ok (.getfield 9, 3) := by decide +kernel
theorem dX9_of_4 : decode cX9_of 4 = .ok (.bipush 49, 2) := by decide +kernel
theorem dX9_of_6 : decode cX9_of 6 = .ok (.iconst 5, 1) := by decide +kernel
theorem dX9_of_7 : decode cX9_of 7 = .ok (.iload_n 1, 1) := by decide +kernel
theorem dX9_of_8 : decode cX9_of 8 = .ok (.imul, 1) := by decide +kernel
theorem dX9_of_9 : decode cX9_of 9 = .ok (.iadd, 1) := by decide +kernel
theorem dX9_of_10 : decode cX9_of 10 = .ok (.iload_n 2, 1) := by decide +kernel
theorem dX9_of_11 : decode cX9_of 11 = .ok (.iadd, 1) := by decide +kernel
theorem dX9_of_12 : decode cX9_of 12 = .ok (.iaload, 1) := by decide +kernel
theorem dX9_of_13 : decode cX9_of 13 = .ok (.ireturn, 1) := by decide +kernel
theorem dX9_minutes_0 : decode cX9_minutes 0 = .ok (.aload_n 0, 1) := by decide +kernel
theorem dX9_minutes_1 : decode cX9_minutes 1 = .ok (.getfield 9, 3) := by decide +kernel
theorem dX9_minutes_4 : decode cX9_minutes 4 = .ok (.iconst 0, 1) := by decide +kernel
theorem dX9_minutes_5 : decode cX9_minutes 5 = .ok (.iaload, 1) := by decide +kernel
theorem dX9_minutes_6 : decode cX9_minutes 6 = .ok (.ireturn, 1) := by decide +kernel
theorem dX9_feed_0 : decode cX9_feed 0 = .ok (.aload_n 0, 1) := by decide +kernel
theorem dX9_feed_1 : decode cX9_feed 1 = .ok (.getfield 100, 3) := by decide +kernel
theorem dX9_feed_4 : decode cX9_feed 4 = .ok (.bipush 20, 2) := by decide +kernel
theorem dX9_feed_6 : decode cX9_feed 6 = .ok (.iadd, 1) := by decide +kernel
theorem dX9_feed_7 : decode cX9_feed 7 = .ok (.sipush 900, 3) := by decide +kernel
theorem dX9_feed_10 : decode cX9_feed 10 = .ok (.if_icmp .le 5, 3) := by decide +kernel
theorem dX9_feed_13 : decode cX9_feed 13 = .ok (.iconst (-1), 1) := by decide +kernel
theorem dX9_feed_14 : decode cX9_feed 14 = .ok (.ireturn, 1) := by decide +kernel
theorem dX9_feed_15 : decode cX9_feed 15 = .ok (.aload_n 0, 1) := by decide +kernel
theorem dX9_feed_16 : decode cX9_feed 16 = .ok (.getfield 24, 3) := by decide +kernel
theorem dX9_feed_19 : decode cX9_feed 19 = .ok (.iconst 0, 1) := by decide +kernel
theorem dX9_feed_20 : decode cX9_feed 20 = .ok (.iload_n 1, 1) := by decide +kernel
theorem dX9_feed_21 : decode cX9_feed 21 = .ok (.iastore, 1) := by decide +kernel
theorem dX9_feed_22 : decode cX9_feed 22 = .ok (.aload_n 0, 1) := by decide +kernel
theorem dX9_feed_23 : decode cX9_feed 23 = .ok (.getfield 24, 3) := by decide +kernel
theorem dX9_feed_26 : decode cX9_feed 26 = .ok (.iconst 1, 1) := by decide +kernel
theorem dX9_feed_27 : decode cX9_feed 27 = .ok (.iload_n 2, 1) := by decide +kernel
theorem dX9_feed_28 : decode cX9_feed 28 = .ok (.iastore, 1) := by decide +kernel
theorem dX9_feed_29 : decode cX9_feed 29 = .ok (.aload_n 0, 1) := by decide +kernel
theorem dX9_feed_30 : decode cX9_feed 30 = .ok (.getfield 24, 3) := by decide +kernel
theorem dX9_feed_33 : decode cX9_feed 33 = .ok (.iconst 2, 1) := by decide +kernel
theorem dX9_feed_34 : decode cX9_feed 34 = .ok (.iload_n 3, 1) := by decide +kernel
theorem dX9_feed_35 : decode cX9_feed 35 = .ok (.iastore, 1) := by decide +kernel
theorem dX9_feed_36 : decode cX9_feed 36 = .ok (.aload_n 0, 1) := by decide +kernel
theorem dX9_feed_37 : decode cX9_feed 37 = .ok (.getfield 24, 3) := by decide +kernel
theorem dX9_feed_40 : decode cX9_feed 40 = .ok (.iconst 3, 1) := by decide +kernel
theorem dX9_feed_41 : decode cX9_feed 41 = .ok (.iload 4, 2) := by decide +kernel
theorem dX9_feed_43 : decode cX9_feed 43 = .ok (.iastore, 1) := by decide +kernel
theorem dX9_feed_44 : decode cX9_feed 44 = .ok (.aload_n 0, 1) := by decide +kernel
theorem dX9_feed_45 : decode cX9_feed 45 = .ok (.getfield 24, 3) := by decide +kernel
theorem dX9_feed_48 : decode cX9_feed 48 = .ok (.iconst 4, 1) := by decide +kernel
theorem dX9_feed_49 : decode cX9_feed 49 = .ok (.iload 5, 2) := by decide +kernel
theorem dX9_feed_51 : decode cX9_feed 51 = .ok (.iastore, 1) := by decide +kernel
theorem dX9_feed_52 : decode cX9_feed 52 = .ok (.iconst 0, 1) := by decide +kernel
theorem dX9_feed_53 : decode cX9_feed 53 = .ok (.istore 6, 2) := by decide +kernel
theorem dX9_feed_55 : decode cX9_feed 55 = .ok (.iload 6, 2) := by decide +kernel
theorem dX9_feed_57 : decode cX9_feed 57 = .ok (.bipush 20, 2) := by decide +kernel
theorem dX9_feed_59 : decode cX9_feed 59 = .ok (.if_icmp .ge 42, 3) := by decide +kernel
theorem dX9_feed_62 : decode cX9_feed 62 = .ok (.aload_n 0, 1) := by decide +kernel
theorem dX9_feed_63 : decode cX9_feed 63 = .ok (.getfield 20, 3) := by decide +kernel
theorem dX9_feed_66 : decode cX9_feed 66 = .ok (.aload_n 0, 1) := by decide +kernel
theorem dX9_feed_67 : decode cX9_feed 67 = .ok (.getfield 100, 3) := by decide +kernel
theorem dX9_feed_70 : decode cX9_feed 70 = .ok (.iload 6, 2) := by decide +kernel
theorem dX9_feed_72 : decode cX9_feed 72 = .ok (.iadd, 1) := by decide +kernel
theorem dX9_feed_73 : decode cX9_feed 73 = .ok (.aload_n 0, 1) := by decide +kernel
theorem dX9_feed_74 : decode cX9_feed 74 = .ok (.getfield 24, 3) := by decide +kernel
theorem dX9_feed_77 : decode cX9_feed 77 = .ok (.iload 6, 2) := by decide +kernel
theorem dX9_feed_79 : decode cX9_feed 79 = .ok (.iconst 4, 1) := by decide +kernel
theorem dX9_feed_80 : decode cX9_feed 80 = .ok (.idiv, 1) := by decide +kernel
theorem dX9_feed_81 : decode cX9_feed 81 = .ok (.iaload, 1) := by decide +kernel
theorem dX9_feed_82 : decode cX9_feed 82 = .ok (.bipush 24, 2) := by decide +kernel
theorem dX9_feed_84 : decode cX9_feed 84 = .ok (.bipush 8, 2) := by decide +kernel
theorem dX9_feed_86 : decode cX9_feed 86 = .ok (.iload 6, 2) := by decide +kernel
theorem dX9_feed_88 : decode cX9_feed 88 = .ok (.iconst 4, 1) := by decide +kernel
theorem dX9_feed_89 : decode cX9_feed 89 = .ok (.irem, 1) := by decide +kernel
theorem dX9_feed_90 : decode cX9_feed 90 = .ok (.imul, 1) := by decide +kernel
theorem dX9_feed_91 : decode cX9_feed 91 = .ok (.isub, 1) := by decide +kernel
theorem dX9_feed_92 : decode cX9_feed 92 = .ok (.ishr, 1) := by decide +kernel
theorem dX9_feed_93 : decode cX9_feed 93 = .ok (.i2b, 1) := by decide +kernel
theorem dX9_feed_94 : decode cX9_feed 94 = .ok (.bastore, 1) := by decide +kernel
theorem dX9_feed_95 : decode cX9_feed 95 = .ok (.iinc 6 1, 3) := by decide +kernel
theorem dX9_feed_98 : decode cX9_feed 98 = .ok (.goto (-43), 3) := by decide +kernel
theorem dX9_feed_101 : decode cX9_feed 101 = .ok (.aload_n 0, 1) := by decide +kernel
theorem dX9_feed_102 : decode cX9_feed 102 = .ok (.dup, 1) := by decide +kernel
theorem dX9_feed_103 : decode cX9_feed 103 = .ok (.getfield 100, 3) := by decide +kernel
theorem dX9_feed_106 : decode cX9_feed 106 = .ok (.bipush 20, 2) := by decide +kernel
theorem dX9_feed_108 : decode cX9_feed 108 = .ok (.iadd, 1) := by decide +kernel
theorem dX9_feed_109 : decode cX9_feed 109 = .ok (.putfield 100, 3) := by decide +kernel
theorem dX9_feed_112 : decode cX9_feed 112 = .ok (.aload_n 0, 1) := by decide +kernel
theorem dX9_feed_113 : decode cX9_feed 113 = .ok (.getfield 100, 3) := by decide +kernel
theorem dX9_feed_116 : decode cX9_feed 116 = .ok (.ireturn, 1) := by decide +kernel
theorem dX9_end_0 : decode cX9_end 0 = .ok (.iload_n 1, 1) := by decide +kernel
theorem dX9_end_1 : decode cX9_end 1 = .ok (.i2l, 1) := by decide +kernel
theorem dX9_end_2 : decode cX9_end 2 = .ok (.lconst 0, 1) := by decide +kernel
theorem dX9_end_3 : decode cX9_end 3 = .ok (.aload_n 0, 1) := by decide +kernel
theorem dX9_end_4 : decode cX9_end 4 = .ok (.getfield 100, 3) := by decide +kernel
theorem dX9_end_7 : decode cX9_end 7 = .ok (.i2l, 1) := by decide +kernel
theorem dX9_end_8 : decode cX9_end 8 = .ok (.invokestatic 94, 3) := by decide +kernel
theorem dX9_end_11 : decode cX9_end 11 = .ok (.ifCond .ne 5, 3) := by decide +kernel
theorem dX9_end_14 : decode cX9_end 14 = .ok (.iconst (-1), 1) := by decide +kernel
theorem dX9_end_15 : decode cX9_end 15 = .ok (.ireturn, 1) := by decide +kernel
theorem dX9_end_16 : decode cX9_end 16 = .ok (.aload_n 0, 1) := by decide +kernel
theorem dX9_end_17 : decode cX9_end 17 = .ok (.iload_n 1, 1) := by decide +kernel
theorem dX9_end_18 : decode cX9_end 18 = .ok (.putfield 100, 3) := by decide +kernel
theorem dX9_end_21 : decode cX9_end 21 = .ok (.iload_n 1, 1) := by decide +kernel
theorem dX9_end_22 : decode cX9_end 22 = .ok (.ireturn, 1) := by decide +kernel
theorem dX9_see_0 : decode cX9_see 0 = .ok (.iload_n 1, 1) := by decide +kernel
theorem dX9_see_1 : decode cX9_see 1 = .ok (.aload_n 0, 1) := by decide +kernel
theorem dX9_see_2 : decode cX9_see 2 = .ok (.getfield 103, 3) := by decide +kernel
theorem dX9_see_5 : decode cX9_see 5 = .ok (.if_icmp .ge 16, 3) := by decide +kernel
theorem dX9_see_8 : decode cX9_see 8 = .ok (.aload_n 0, 1) := by decide +kernel
theorem dX9_see_9 : decode cX9_see 9 = .ok (.getfield 20, 3) := by decide +kernel
theorem dX9_see_12 : decode cX9_see 12 = .ok (.iload_n 1, 1) := by decide +kernel
theorem dX9_see_13 : decode cX9_see 13 = .ok (.baload, 1) := by decide +kernel
theorem dX9_see_14 : decode cX9_see 14 = .ok (.sipush 255, 3) := by decide +kernel
theorem dX9_see_17 : decode cX9_see 17 = .ok (.iand, 1) := by decide +kernel
theorem dX9_see_18 : decode cX9_see 18 = .ok (.goto 4, 3) := by decide +kernel
theorem dX9_see_21 : decode cX9_see 21 = .ok (.iconst (-1), 1) := by decide +kernel
theorem dX9_see_22 : decode cX9_see 22 = .ok (.ireturn, 1) := by decide +kernel
theorem dX9_advance_0 : decode cX9_advance 0 = .ok (.aload_n 0, 1) := by decide +kernel
theorem dX9_advance_1 : decode cX9_advance 1 = .ok (.aload_n 0, 1) := by decide +kernel
theorem dX9_advance_2 : decode cX9_advance 2 = .ok (.getfield 106, 3) := by decide +kernel
theorem dX9_advance_5 : decode cX9_advance 5 = .ok (.invokevirtual 109, 3) := by decide +kernel
theorem dX9_advance_8 : decode cX9_advance 8 = .ok (.bipush 32, 2) := by decide +kernel
theorem dX9_advance_10 : decode cX9_advance 10 = .ok (.if_icmp .eq 16, 3) := by decide +kernel
theorem dX9_advance_13 : decode cX9_advance 13 = .ok (.aload_n 0, 1) := by decide +kernel
theorem dX9_advance_14 : decode cX9_advance 14 = .ok (.aload_n 0, 1) := by decide +kernel
theorem dX9_advance_15 : decode cX9_advance 15 = .ok (.getfield 106, 3) := by decide +kernel
theorem dX9_advance_18 : decode cX9_advance 18 = .ok (.invokevirtual 109, 3) := by decide +kernel
theorem dX9_advance_21 : decode cX9_advance 21 = .ok (.bipush 10, 2) := by decide +kernel
theorem dX9_advance_23 : decode cX9_advance 23 = .ok (.if_icmp .ne 16, 3) := by decide +kernel
theorem dX9_advance_26 : decode cX9_advance 26 = .ok (.aload_n 0, 1) := by decide +kernel
theorem dX9_advance_27 : decode cX9_advance 27 = .ok (.dup, 1) := by decide +kernel
theorem dX9_advance_28 : decode cX9_advance 28 = .ok (.getfield 106, 3) := by decide +kernel
theorem dX9_advance_31 : decode cX9_advance 31 = .ok (.iconst 1, 1) := by decide +kernel
theorem dX9_advance_32 : decode cX9_advance 32 = .ok (.iadd, 1) := by decide +kernel
theorem dX9_advance_33 : decode cX9_advance 33 = .ok (.putfield 106, 3) := by decide +kernel
theorem dX9_advance_36 : decode cX9_advance 36 = .ok (.goto (-36), 3) := by decide +kernel
theorem dX9_advance_39 : decode cX9_advance 39 = .ok (.aload_n 0, 1) := by decide +kernel
theorem dX9_advance_40 : decode cX9_advance 40 = .ok (.aload_n 0, 1) := by decide +kernel
theorem dX9_advance_41 : decode cX9_advance 41 = .ok (.getfield 106, 3) := by decide +kernel
theorem dX9_advance_44 : decode cX9_advance 44 = .ok (.putfield 113, 3) := by decide +kernel
theorem dX9_advance_47 : decode cX9_advance 47 = .ok (.aload_n 0, 1) := by decide +kernel
theorem dX9_advance_48 : decode cX9_advance 48 = .ok (.aload_n 0, 1) := by decide +kernel
theorem dX9_advance_49 : decode cX9_advance 49 = .ok (.getfield 106, 3) := by decide +kernel
theorem dX9_advance_52 : decode cX9_advance 52 = .ok (.invokevirtual 109, 3) := by decide +kernel
theorem dX9_advance_55 : decode cX9_advance 55 = .ok (.istore_n 1, 1) := by decide +kernel
theorem dX9_advance_56 : decode cX9_advance 56 = .ok (.iload_n 1, 1) := by decide +kernel
theorem dX9_advance_57 : decode cX9_advance 57 = .ok (.iconst (-1), 1) := by decide +kernel
theorem dX9_advance_58 : decode cX9_advance 58 = .ok (.if_icmp .ne 11, 3) := by decide +kernel
theorem dX9_advance_61 : decode cX9_advance 61 = .ok (.aload_n 0, 1) := by decide +kernel
theorem dX9_advance_62 : decode cX9_advance 62 = .ok (.iconst 0, 1) := by decide +kernel
theorem dX9_advance_63 : decode cX9_advance 63 = .ok (.putfield 116, 3) := by decide +kernel
theorem dX9_advance_66 : decode cX9_advance 66 = .ok (.goto 173, 3) := by decide +kernel
theorem dX9_advance_69 : decode cX9_advance 69 = .ok (.iload_n 1, 1) := by decide +kernel
theorem dX9_advance_70 : decode cX9_advance 70 = .ok (.i2l, 1) := by decide +kernel
theorem dX9_advance_71 : decode cX9_advance 71 = .ok (.ldc2_w 119, 3) := by decide +kernel
theorem dX9_advance_74 : decode cX9_advance 74 = .ok (.ldc2_w 121, 3) := by decide +kernel
theorem dX9_advance_77 : decode cX9_advance 77 = .ok (.invokestatic 94, 3) := by decide +kernel
theorem dX9_advance_80 : decode cX9_advance 80 = .ok (.ifCond .eq 45, 3) := by decide +kernel
theorem dX9_advance_83 : decode cX9_advance 83 = .ok (.aload_n 0, 1) := by decide +kernel
theorem dX9_advance_84 : decode cX9_advance 84 = .ok (.aload_n 0, 1) := by decide +kernel
theorem dX9_advance_85 : decode cX9_advance 85 = .ok (.getfield 106, 3) := by decide +kernel
theorem dX9_advance_88 : decode cX9_advance 88 = .ok (.invokevirtual 109, 3) := by decide +kernel
theorem dX9_advance_91 : decode cX9_advance 91 = .ok (.i2l, 1) := by decide +kernel
theorem dX9_advance_92 : decode cX9_advance 92 = .ok (.ldc2_w 119, 3) := by decide +kernel
theorem dX9_advance_95 : decode cX9_advance 95 = .ok (.ldc2_w 121, 3) := by decide +kernel
theorem dX9_advance_98 : decode cX9_advance 98 = .ok (.invokestatic 94, 3) := by decide +kernel
theorem dX9_advance_101 : decode cX9_advance 101 = .ok (.ifCond .eq 16, 3) := by decide +kernel
theorem dX9_advance_104 : decode cX9_advance 104 = .ok (.aload_n 0, 1) := by decide +kernel
theorem dX9_advance_105 : decode cX9_advance 105 = .ok (.dup, 1) := by decide +kernel
theorem dX9_advance_106 : decode cX9_advance 106 = .ok (.getfield 106, 3) := by decide +kernel
theorem dX9_advance_109 : decode cX9_advance 109 = .ok (.iconst 1, 1) := by decide +kernel
theorem dX9_advance_110 : decode cX9_advance 110 = .ok (.iadd, 1) := by decide +kernel
theorem dX9_advance_111 : decode cX9_advance 111 = .ok (.putfield 106, 3) := by decide +kernel
theorem dX9_advance_114 : decode cX9_advance 114 = .ok (.goto (-31), 3) := by decide +kernel
theorem dX9_advance_117 : decode cX9_advance 117 = .ok (.aload_n 0, 1) := by decide +kernel
theorem dX9_advance_118 : decode cX9_advance 118 = .ok (.iconst 1, 1) := by decide +kernel
theorem dX9_advance_119 : decode cX9_advance 119 = .ok (.putfield 116, 3) := by decide +kernel
theorem dX9_advance_122 : decode cX9_advance 122 = .ok (.goto 117, 3) := by decide +kernel
theorem dX9_advance_125 : decode cX9_advance 125 = .ok (.iload_n 1, 1) := by decide +kernel
theorem dX9_advance_126 : decode cX9_advance 126 = .ok (.i2l, 1) := by decide +kernel
theorem dX9_advance_127 : decode cX9_advance 127 = .ok (.ldc2_w 123, 3) := by decide +kernel
theorem dX9_advance_130 : decode cX9_advance 130 = .ok (.ldc2_w 125, 3) := by decide +kernel
theorem dX9_advance_133 : decode cX9_advance 133 = .ok (.invokestatic 94, 3) := by decide +kernel
theorem dX9_advance_136 : decode cX9_advance 136 = .ok (.ifCond .eq 78, 3) := by decide +kernel
theorem dX9_advance_139 : decode cX9_advance 139 = .ok (.aload_n 0, 1) := by decide +kernel
theorem dX9_advance_140 : decode cX9_advance 140 = .ok (.iconst 0, 1) := by decide +kernel
theorem dX9_advance_141 : decode cX9_advance 141 = .ok (.putfield 127, 3) := by decide +kernel
theorem dX9_advance_144 : decode cX9_advance 144 = .ok (.aload_n 0, 1) := by decide +kernel
theorem dX9_advance_145 : decode cX9_advance 145 = .ok (.aload_n 0, 1) := by decide +kernel
theorem dX9_advance_146 : decode cX9_advance 146 = .ok (.getfield 106, 3) := by decide +kernel
theorem dX9_advance_149 : decode cX9_advance 149 = .ok (.invokevirtual 109, 3) := by decide +kernel
theorem dX9_advance_152 : decode cX9_advance 152 = .ok (.i2l, 1) := by decide +kernel
theorem dX9_advance_153 : decode cX9_advance 153 = .ok (.ldc2_w 123, 3) := by decide +kernel
theorem dX9_advance_156 : decode cX9_advance 156 = .ok (.ldc2_w 125, 3) := by decide +kernel
theorem dX9_advance_159 : decode cX9_advance 159 = .ok (.invokestatic 94, 3) := by decide +kernel
theorem dX9_advance_162 : decode cX9_advance 162 = .ok (.ifCond .eq 44, 3) := by decide +kernel
theorem dX9_advance_165 : decode cX9_advance 165 = .ok (.aload_n 0, 1) := by decide +kernel
theorem dX9_advance_166 : decode cX9_advance 166 = .ok (.ldc 130, 2) := by decide +kernel
theorem dX9_advance_168 : decode cX9_advance 168 = .ok (.bipush 10, 2) := by decide +kernel
theorem dX9_advance_170 : decode cX9_advance 170 = .ok (.aload_n 0, 1) := by decide +kernel
theorem dX9_advance_171 : decode cX9_advance 171 = .ok (.getfield 127, 3) := by decide +kernel
theorem dX9_advance_174 : decode cX9_advance 174 = .ok (.imul, 1) := by decide +kernel
theorem dX9_advance_175 : decode cX9_advance 175 = .ok (.aload_n 0, 1) := by decide +kernel
theorem dX9_advance_176 : decode cX9_advance 176 = .ok (.aload_n 0, 1) := by decide +kernel
theorem dX9_advance_177 : decode cX9_advance 177 = .ok (.getfield 106, 3) := by decide +kernel
theorem dX9_advance_180 : decode cX9_advance 180 = .ok (.invokevirtual 109, 3) := by decide +kernel
theorem dX9_advance_183 : decode cX9_advance 183 = .ok (.iadd, 1) := by decide +kernel
theorem dX9_advance_184 : decode cX9_advance 184 = .ok (.bipush 48, 2) := by decide +kernel
theorem dX9_advance_186 : decode cX9_advance 186 = .ok (.isub, 1) := by decide +kernel
theorem dX9_advance_187 : decode cX9_advance 187 = .ok (.invokestatic 131, 3) := by decide +kernel
theorem dX9_advance_190 : decode cX9_advance 190 = .ok (.putfield 127, 3) := by decide +kernel
theorem dX9_advance_193 : decode cX9_advance 193 = .ok (.aload_n 0, 1) := by decide +kernel
theorem dX9_advance_194 : decode cX9_advance 194 = .ok (.dup, 1) := by decide +kernel
theorem dX9_advance_195 : decode cX9_advance 195 = .ok (.getfield 106, 3) := by decide +kernel
theorem dX9_advance_198 : decode cX9_advance 198 = .ok (.iconst 1, 1) := by decide +kernel
theorem dX9_advance_199 : decode cX9_advance 199 = .ok (.iadd, 1) := by decide +kernel
theorem dX9_advance_200 : decode cX9_advance 200 = .ok (.putfield 106, 3) := by decide +kernel
theorem dX9_advance_203 : decode cX9_advance 203 = .ok (.goto (-59), 3) := by decide +kernel
theorem dX9_advance_206 : decode cX9_advance 206 = .ok (.aload_n 0, 1) := by decide +kernel
theorem dX9_advance_207 : decode cX9_advance 207 = .ok (.iconst 2, 1) := by decide +kernel
theorem dX9_advance_208 : decode cX9_advance 208 = .ok (.putfield 116, 3) := by decide +kernel
theorem dX9_advance_211 : decode cX9_advance 211 = .ok (.goto 28, 3) := by decide +kernel
theorem dX9_advance_214 : decode cX9_advance 214 = .ok (.aload_n 0, 1) := by decide +kernel
theorem dX9_advance_215 : decode cX9_advance 215 = .ok (.iload_n 1, 1) := by decide +kernel
theorem dX9_advance_216 : decode cX9_advance 216 = .ok (.bipush 59, 2) := by decide +kernel
theorem dX9_advance_218 : decode cX9_advance 218 = .ok (.if_icmp .ne 7, 3) := by decide +kernel
theorem dX9_advance_221 : decode cX9_advance 221 = .ok (.iconst 3, 1) := by decide +kernel
theorem dX9_advance_222 : decode cX9_advance 222 = .ok (.goto 4, 3) := by decide +kernel
theorem dX9_advance_225 : decode cX9_advance 225 = .ok (.iconst 4, 1) := by decide +kernel
theorem dX9_advance_226 : decode cX9_advance 226 = .ok (.putfield 116, 3) := by decide +kernel
theorem dX9_advance_229 : decode cX9_advance 229 = .ok (.aload_n 0, 1) := by decide +kernel
theorem dX9_advance_230 : decode cX9_advance 230 = .ok (.dup, 1) := by decide +kernel
theorem dX9_advance_231 : decode cX9_advance 231 = .ok (.getfield 106, 3) := by decide +kernel
theorem dX9_advance_234 : decode cX9_advance 234 = .ok (.iconst 1, 1) := by decide +kernel
theorem dX9_advance_235 : decode cX9_advance 235 = .ok (.iadd, 1) := by decide +kernel
theorem dX9_advance_236 : decode cX9_advance 236 = .ok (.putfield 106, 3) := by decide +kernel
theorem dX9_advance_239 : decode cX9_advance 239 = .ok (.return_, 1) := by decide +kernel
theorem dX9_good_0 : decode cX9_good 0 = .ok (.aload_n 0, 1) := by decide +kernel
theorem dX9_good_1 : decode cX9_good 1 = .ok (.getfield 137, 3) := by decide +kernel
theorem dX9_good_4 : decode cX9_good 4 = .ok (.ifCond .ne 7, 3) := by decide +kernel
theorem dX9_good_7 : decode cX9_good 7 = .ok (.iconst 1, 1) := by decide +kernel
theorem dX9_good_8 : decode cX9_good 8 = .ok (.goto 4, 3) := by decide +kernel
theorem dX9_good_11 : decode cX9_good 11 = .ok (.iconst 0, 1) := by decide +kernel
theorem dX9_good_12 : decode cX9_good 12 = .ok (.ireturn, 1) := by decide +kernel
theorem dX9_errs_0 : decode cX9_errs 0 = .ok (.aload_n 0, 1) := by decide +kernel
theorem dX9_errs_1 : decode cX9_errs 1 = .ok (.invokevirtual 140, 3) := by decide +kernel
theorem dX9_errs_4 : decode cX9_errs 4 = .ok (.ifCond .ne 4, 3) := by decide +kernel
theorem dX9_errs_7 : decode cX9_errs 7 = .ok (.return_, 1) := by decide +kernel
theorem dX9_errs_8 : decode cX9_errs 8 = .ok (.aload_n 0, 1) := by decide +kernel
theorem dX9_errs_9 : decode cX9_errs 9 = .ok (.iload_n 1, 1) := by decide +kernel
theorem dX9_errs_10 : decode cX9_errs 10 = .ok (.putfield 137, 3) := by decide +kernel
theorem dX9_errs_13 : decode cX9_errs 13 = .ok (.aload_n 0, 1) := by decide +kernel
theorem dX9_errs_14 : decode cX9_errs 14 = .ok (.aload_n 0, 1) := by decide +kernel
theorem dX9_errs_15 : decode cX9_errs 15 = .ok (.getfield 113, 3) := by decide +kernel
theorem dX9_errs_18 : decode cX9_errs 18 = .ok (.putfield 27, 3) := by decide +kernel
theorem dX9_errs_21 : decode cX9_errs 21 = .ok (.return_, 1) := by decide +kernel
theorem dX9_is_0 : decode cX9_is 0 = .ok (.aload_n 0, 1) := by decide +kernel
theorem dX9_is_1 : decode cX9_is 1 = .ok (.invokevirtual 140, 3) := by decide +kernel
theorem dX9_is_4 : decode cX9_is 4 = .ok (.ifCond .eq 31, 3) := by decide +kernel
theorem dX9_is_7 : decode cX9_is 7 = .ok (.aload_n 0, 1) := by decide +kernel
theorem dX9_is_8 : decode cX9_is 8 = .ok (.getfield 116, 3) := by decide +kernel
theorem dX9_is_11 : decode cX9_is 11 = .ok (.iconst 1, 1) := by decide +kernel
theorem dX9_is_12 : decode cX9_is 12 = .ok (.if_icmp .ne 23, 3) := by decide +kernel
theorem dX9_is_15 : decode cX9_is 15 = .ok (.aload_n 0, 1) := by decide +kernel
theorem dX9_is_16 : decode cX9_is 16 = .ok (.getfield 106, 3) := by decide +kernel
theorem dX9_is_19 : decode cX9_is 19 = .ok (.aload_n 0, 1) := by decide +kernel
theorem dX9_is_20 : decode cX9_is 20 = .ok (.getfield 113, 3) := by decide +kernel
theorem dX9_is_23 : decode cX9_is 23 = .ok (.isub, 1) := by decide +kernel
theorem dX9_is_24 : decode cX9_is 24 = .ok (.aload_n 1, 1) := by decide +kernel
theorem dX9_is_25 : decode cX9_is 25 = .ok (.invokevirtual 144, 3) := by decide +kernel
theorem dX9_is_28 : decode cX9_is 28 = .ok (.if_icmp .ne 7, 3) := by decide +kernel
theorem dX9_is_31 : decode cX9_is 31 = .ok (.iconst 1, 1) := by decide +kernel
theorem dX9_is_32 : decode cX9_is 32 = .ok (.goto 4, 3) := by decide +kernel
theorem dX9_is_35 : decode cX9_is 35 = .ok (.iconst 0, 1) := by decide +kernel
theorem dX9_is_36 : decode cX9_is 36 = .ok (.istore_n 2, 1) := by decide +kernel
theorem dX9_is_37 : decode cX9_is 37 = .ok (.iconst 0, 1) := by decide +kernel
theorem dX9_is_38 : decode cX9_is 38 = .ok (.istore_n 3, 1) := by decide +kernel
theorem dX9_is_39 : decode cX9_is 39 = .ok (.iload_n 3, 1) := by decide +kernel
theorem dX9_is_40 : decode cX9_is 40 = .ok (.aload_n 1, 1) := by decide +kernel
theorem dX9_is_41 : decode cX9_is 41 = .ok (.invokevirtual 144, 3) := by decide +kernel
theorem dX9_is_44 : decode cX9_is 44 = .ok (.if_icmp .ge 38, 3) := by decide +kernel
theorem dX9_is_47 : decode cX9_is 47 = .ok (.iload_n 2, 1) := by decide +kernel
theorem dX9_is_48 : decode cX9_is 48 = .ok (.ifCond .eq 34, 3) := by decide +kernel
theorem dX9_is_51 : decode cX9_is 51 = .ok (.aload_n 0, 1) := by decide +kernel
theorem dX9_is_52 : decode cX9_is 52 = .ok (.getfield 20, 3) := by decide +kernel
theorem dX9_is_55 : decode cX9_is 55 = .ok (.aload_n 0, 1) := by decide +kernel
theorem dX9_is_56 : decode cX9_is 56 = .ok (.getfield 113, 3) := by decide +kernel
theorem dX9_is_59 : decode cX9_is 59 = .ok (.iload_n 3, 1) := by decide +kernel
theorem dX9_is_60 : decode cX9_is 60 = .ok (.iadd, 1) := by decide +kernel
theorem dX9_is_61 : decode cX9_is 61 = .ok (.baload, 1) := by decide +kernel
theorem dX9_is_62 : decode cX9_is 62 = .ok (.aload_n 1, 1) := by decide +kernel
theorem dX9_is_63 : decode cX9_is 63 = .ok (.iload_n 3, 1) := by decide +kernel
theorem dX9_is_64 : decode cX9_is 64 = .ok (.invokevirtual 150, 3) := by decide +kernel
theorem dX9_is_67 : decode cX9_is 67 = .ok (.if_icmp .ne 7, 3) := by decide +kernel
theorem dX9_is_70 : decode cX9_is 70 = .ok (.iconst 1, 1) := by decide +kernel
theorem dX9_is_71 : decode cX9_is 71 = .ok (.goto 4, 3) := by decide +kernel
theorem dX9_is_74 : decode cX9_is 74 = .ok (.iconst 0, 1) := by decide +kernel
theorem dX9_is_75 : decode cX9_is 75 = .ok (.istore_n 2, 1) := by decide +kernel
theorem dX9_is_76 : decode cX9_is 76 = .ok (.iinc 3 1, 3) := by decide +kernel
theorem dX9_is_79 : decode cX9_is 79 = .ok (.goto (-40), 3) := by decide +kernel
theorem dX9_is_82 : decode cX9_is 82 = .ok (.iload_n 2, 1) := by decide +kernel
theorem dX9_is_83 : decode cX9_is 83 = .ok (.ireturn, 1) := by decide +kernel
theorem dX9_takes_0 : decode cX9_takes 0 = .ok (.aload_n 0, 1) := by decide +kernel
theorem dX9_takes_1 : decode cX9_takes 1 = .ok (.aload_n 1, 1) := by decide +kernel
theorem dX9_takes_2 : decode cX9_takes 2 = .ok (.invokevirtual 154, 3) := by decide +kernel
theorem dX9_takes_5 : decode cX9_takes 5 = .ok (.istore_n 2, 1) := by decide +kernel
theorem dX9_takes_6 : decode cX9_takes 6 = .ok (.iload_n 2, 1) := by decide +kernel
theorem dX9_takes_7 : decode cX9_takes 7 = .ok (.ifCond .eq 7, 3) := by decide +kernel
theorem dX9_takes_10 : decode cX9_takes 10 = .ok (.aload_n 0, 1) := by decide +kernel
theorem dX9_takes_11 : decode cX9_takes 11 = .ok (.invokevirtual 158, 3) := by decide +kernel
theorem dX9_takes_14 : decode cX9_takes 14 = .ok (.iload_n 2, 1) := by decide +kernel
theorem dX9_takes_15 : decode cX9_takes 15 = .ok (.ireturn, 1) := by decide +kernel
theorem dX9_needs_0 : decode cX9_needs 0 = .ok (.aload_n 0, 1) := by decide +kernel
theorem dX9_needs_1 : decode cX9_needs 1 = .ok (.aload_n 1, 1) := by decide +kernel
theorem dX9_needs_2 : decode cX9_needs 2 = .ok (.invokevirtual 161, 3) := by decide +kernel
theorem dX9_needs_5 : decode cX9_needs 5 = .ok (.ifCond .ne 8, 3) := by decide +kernel
theorem dX9_needs_8 : decode cX9_needs 8 = .ok (.aload_n 0, 1) := by decide +kernel
theorem dX9_needs_9 : decode cX9_needs 9 = .ok (.iconst 1, 1) := by decide +kernel
theorem dX9_needs_10 : decode cX9_needs 10 = .ok (.invokevirtual 164, 3) := by decide +kernel
theorem dX9_needs_13 : decode cX9_needs 13 = .ok (.return_, 1) := by decide +kernel
theorem dX9_number_0 : decode cX9_number 0 = .ok (.aload_n 0, 1) := by decide +kernel
theorem dX9_number_1 : decode cX9_number 1 = .ok (.invokevirtual 140, 3) := by decide +kernel
theorem dX9_number_4 : decode cX9_number 4 = .ok (.ifCond .eq 16, 3) := by decide +kernel
theorem dX9_number_7 : decode cX9_number 7 = .ok (.aload_n 0, 1) := by decide +kernel
theorem dX9_number_8 : decode cX9_number 8 = .ok (.getfield 116, 3) := by decide +kernel
theorem dX9_number_11 : decode cX9_number 11 = .ok (.iconst 2, 1) := by decide +kernel
theorem dX9_number_12 : decode cX9_number 12 = .ok (.if_icmp .eq 8, 3) := by decide +kernel
theorem dX9_number_15 : decode cX9_number 15 = .ok (.aload_n 0, 1) := by decide +kernel
theorem dX9_number_16 : decode cX9_number 16 = .ok (.iconst 1, 1) := by decide +kernel
theorem dX9_number_17 : decode cX9_number 17 = .ok (.invokevirtual 164, 3) := by decide +kernel
theorem dX9_number_20 : decode cX9_number 20 = .ok (.aload_n 0, 1) := by decide +kernel
theorem dX9_number_21 : decode cX9_number 21 = .ok (.invokevirtual 140, 3) := by decide +kernel
theorem dX9_number_24 : decode cX9_number 24 = .ok (.ifCond .eq 23, 3) := by decide +kernel
theorem dX9_number_27 : decode cX9_number 27 = .ok (.aload_n 0, 1) := by decide +kernel
theorem dX9_number_28 : decode cX9_number 28 = .ok (.getfield 127, 3) := by decide +kernel
theorem dX9_number_31 : decode cX9_number 31 = .ok (.i2l, 1) := by decide +kernel
theorem dX9_number_32 : decode cX9_number 32 = .ok (.iload_n 1, 1) := by decide +kernel
theorem dX9_number_33 : decode cX9_number 33 = .ok (.i2l, 1) := by decide +kernel
theorem dX9_number_34 : decode cX9_number 34 = .ok (.iload_n 2, 1) := by decide +kernel
theorem dX9_number_35 : decode cX9_number 35 = .ok (.i2l, 1) := by decide +kernel
theorem dX9_number_36 : decode cX9_number 36 = .ok (.invokestatic 94, 3) := by decide +kernel
theorem dX9_number_39 : decode cX9_number 39 = .ok (.ifCond .ne 8, 3) := by decide +kernel
theorem dX9_number_42 : decode cX9_number 42 = .ok (.aload_n 0, 1) := by decide +kernel
theorem dX9_number_43 : decode cX9_number 43 = .ok (.iconst 2, 1) := by decide +kernel
theorem dX9_number_44 : decode cX9_number 44 = .ok (.invokevirtual 164, 3) := by decide +kernel
theorem dX9_number_47 : decode cX9_number 47 = .ok (.aload_n 0, 1) := by decide +kernel
theorem dX9_number_48 : decode cX9_number 48 = .ok (.invokevirtual 140, 3) := by decide +kernel
theorem dX9_number_51 : decode cX9_number 51 = .ok (.ifCond .ne 5, 3) := by decide +kernel
theorem dX9_number_54 : decode cX9_number 54 = .ok (.iconst 0, 1) := by decide +kernel
theorem dX9_number_55 : decode cX9_number 55 = .ok (.ireturn, 1) := by decide +kernel
theorem dX9_number_56 : decode cX9_number 56 = .ok (.aload_n 0, 1) := by decide +kernel
theorem dX9_number_57 : decode cX9_number 57 = .ok (.getfield 127, 3) := by decide +kernel
theorem dX9_number_60 : decode cX9_number 60 = .ok (.istore_n 3, 1) := by decide +kernel
theorem dX9_number_61 : decode cX9_number 61 = .ok (.aload_n 0, 1) := by decide +kernel
theorem dX9_number_62 : decode cX9_number 62 = .ok (.invokevirtual 158, 3) := by decide +kernel
theorem dX9_number_65 : decode cX9_number 65 = .ok (.iload_n 3, 1) := by decide +kernel
theorem dX9_number_66 : decode cX9_number 66 = .ok (.ireturn, 1) := by decide +kernel
theorem dX9_told_0 : decode cX9_told 0 = .ok (.aload_n 0, 1) := by decide +kernel
theorem dX9_told_1 : decode cX9_told 1 = .ok (.aload_n 1, 1) := by decide +kernel
theorem dX9_told_2 : decode cX9_told 2 = .ok (.invokevirtual 168, 3) := by decide +kernel
theorem dX9_told_5 : decode cX9_told 5 = .ok (.aload_n 0, 1) := by decide +kernel
theorem dX9_told_6 : decode cX9_told 6 = .ok (.iload_n 2, 1) := by decide +kernel
theorem dX9_told_7 : decode cX9_told 7 = .ok (.iload_n 3, 1) := by decide +kernel
theorem dX9_told_8 : decode cX9_told 8 = .ok (.invokevirtual 172, 3) := by decide +kernel
theorem dX9_told_11 : decode cX9_told 11 = .ok (.ireturn, 1) := by decide +kernel
theorem dX9_fault_0 : decode cX9_fault 0 = .ok (.iload_n 1, 1) := by decide +kernel
theorem dX9_fault_1 : decode cX9_fault 1 = .ok (.ifCond .ne 10, 3) := by decide +kernel
theorem dX9_fault_4 : decode cX9_fault 4 = .ok (.aload_n 0, 1) := by decide +kernel
theorem dX9_fault_5 : decode cX9_fault 5 = .ok (.getfield 137, 3) := by decide +kernel
theorem dX9_fault_8 : decode cX9_fault 8 = .ok (.goto 16, 3) := by decide +kernel
theorem dX9_fault_11 : decode cX9_fault 11 = .ok (.iload_n 1, 1) := by decide +kernel
theorem dX9_fault_12 : decode cX9_fault 12 = .ok (.iconst 1, 1) := by decide +kernel
theorem dX9_fault_13 : decode cX9_fault 13 = .ok (.if_icmp .ne 10, 3) := by decide +kernel
theorem dX9_fault_16 : decode cX9_fault 16 = .ok (.aload_n 0, 1) := by decide +kernel
theorem dX9_fault_17 : decode cX9_fault 17 = .ok (.getfield 27, 3) := by decide +kernel
theorem dX9_fault_20 : decode cX9_fault 20 = .ok (.goto 4, 3) := by decide +kernel
theorem dX9_fault_23 : decode cX9_fault 23 = .ok (.iconst (-1), 1) := by decide +kernel
theorem dX9_fault_24 : decode cX9_fault 24 = .ok (.ireturn, 1) := by decide +kernel
theorem dX9_readFirst_0 : decode cX9_readFirst 0 = .ok (.aload_n 0, 1) := by decide +kernel
theorem dX9_readFirst_1 : decode cX9_readFirst 1 = .ok (.ldc 175, 2) := by decide +kernel
theorem dX9_readFirst_3 : decode cX9_readFirst 3 = .ok (.invokevirtual 168, 3) := by decide +kernel
theorem dX9_readFirst_6 : decode cX9_readFirst 6 = .ok (.aload_n 0, 1) := by decide +kernel
theorem dX9_readFirst_7 : decode cX9_readFirst 7 = .ok (.getfield 31, 3) := by decide +kernel
theorem dX9_readFirst_10 : decode cX9_readFirst 10 = .ok (.iconst 0, 1) := by decide +kernel
theorem dX9_readFirst_11 : decode cX9_readFirst 11 = .ok (.aload_n 0, 1) := by decide +kernel
theorem dX9_readFirst_12 : decode cX9_readFirst 12 = .ok (.ldc 177, 2) := by decide +kernel
theorem dX9_readFirst_14 : decode cX9_readFirst 14 = .ok (.iconst 1, 1) := by decide +kernel
theorem dX9_readFirst_15 : decode cX9_readFirst 15 = .ok (.bipush 30, 2) := by decide +kernel
theorem dX9_readFirst_17 : decode cX9_readFirst 17 = .ok (.invokevirtual 179, 3) := by decide +kernel
theorem dX9_readFirst_20 : decode cX9_readFirst 20 = .ok (.iastore, 1) := by decide +kernel
theorem dX9_readFirst_21 : decode cX9_readFirst 21 = .ok (.aload_n 0, 1) := by decide +kernel
theorem dX9_readFirst_22 : decode cX9_readFirst 22 = .ok (.getfield 31, 3) := by decide +kernel
theorem dX9_readFirst_25 : decode cX9_readFirst 25 = .ok (.iconst 1, 1) := by decide +kernel
theorem dX9_readFirst_26 : decode cX9_readFirst 26 = .ok (.aload_n 0, 1) := by decide +kernel
theorem dX9_readFirst_27 : decode cX9_readFirst 27 = .ok (.ldc 183, 2) := by decide +kernel
theorem dX9_readFirst_29 : decode cX9_readFirst 29 = .ok (.iconst 0, 1) := by decide +kernel
theorem dX9_readFirst_30 : decode cX9_readFirst 30 = .ok (.bipush 9, 2) := by decide +kernel
theorem dX9_readFirst_32 : decode cX9_readFirst 32 = .ok (.invokevirtual 179, 3) := by decide +kernel
theorem dX9_readFirst_35 : decode cX9_readFirst 35 = .ok (.iastore, 1) := by decide +kernel
theorem dX9_readFirst_36 : decode cX9_readFirst 36 = .ok (.aload_n 0, 1) := by decide +kernel
theorem dX9_readFirst_37 : decode cX9_readFirst 37 = .ok (.getfield 31, 3) := by decide +kernel
theorem dX9_readFirst_40 : decode cX9_readFirst 40 = .ok (.iconst 2, 1) := by decide +kernel
theorem dX9_readFirst_41 : decode cX9_readFirst 41 = .ok (.aload_n 0, 1) := by decide +kernel
theorem dX9_readFirst_42 : decode cX9_readFirst 42 = .ok (.ldc 185, 2) := by decide +kernel
theorem dX9_readFirst_44 : decode cX9_readFirst 44 = .ok (.iconst 0, 1) := by decide +kernel
theorem dX9_readFirst_45 : decode cX9_readFirst 45 = .ok (.iconst 3, 1) := by decide +kernel
theorem dX9_readFirst_46 : decode cX9_readFirst 46 = .ok (.invokevirtual 179, 3) := by decide +kernel
theorem dX9_readFirst_49 : decode cX9_readFirst 49 = .ok (.iastore, 1) := by decide +kernel
theorem dX9_readFirst_50 : decode cX9_readFirst 50 = .ok (.aload_n 0, 1) := by decide +kernel
theorem dX9_readFirst_51 : decode cX9_readFirst 51 = .ok (.getfield 31, 3) := by decide +kernel
theorem dX9_readFirst_54 : decode cX9_readFirst 54 = .ok (.iconst 3, 1) := by decide +kernel
theorem dX9_readFirst_55 : decode cX9_readFirst 55 = .ok (.aload_n 0, 1) := by decide +kernel
theorem dX9_readFirst_56 : decode cX9_readFirst 56 = .ok (.ldc 187, 2) := by decide +kernel
theorem dX9_readFirst_58 : decode cX9_readFirst 58 = .ok (.iconst 0, 1) := by decide +kernel
theorem dX9_readFirst_59 : decode cX9_readFirst 59 = .ok (.sipush 999, 3) := by decide +kernel
theorem dX9_readFirst_62 : decode cX9_readFirst 62 = .ok (.invokevirtual 179, 3) := by decide +kernel
theorem dX9_readFirst_65 : decode cX9_readFirst 65 = .ok (.iastore, 1) := by decide +kernel
theorem dX9_readFirst_66 : decode cX9_readFirst 66 = .ok (.aload_n 0, 1) := by decide +kernel
theorem dX9_readFirst_67 : decode cX9_readFirst 67 = .ok (.getfield 31, 3) := by decide +kernel
theorem dX9_readFirst_70 : decode cX9_readFirst 70 = .ok (.iconst 4, 1) := by decide +kernel
theorem dX9_readFirst_71 : decode cX9_readFirst 71 = .ok (.aload_n 0, 1) := by decide +kernel
theorem dX9_readFirst_72 : decode cX9_readFirst 72 = .ok (.ldc 189, 2) := by decide +kernel
theorem dX9_readFirst_74 : decode cX9_readFirst 74 = .ok (.iconst 0, 1) := by decide +kernel
theorem dX9_readFirst_75 : decode cX9_readFirst 75 = .ok (.bipush 10, 2) := by decide +kernel
theorem dX9_readFirst_77 : decode cX9_readFirst 77 = .ok (.invokevirtual 179, 3) := by decide +kernel
theorem dX9_readFirst_80 : decode cX9_readFirst 80 = .ok (.iastore, 1) := by decide +kernel
theorem dX9_readFirst_81 : decode cX9_readFirst 81 = .ok (.return_, 1) := by decide +kernel
theorem dX9_readNet_0 : decode cX9_readNet 0 = .ok (.bipush 33, 2) := by decide +kernel
theorem dX9_readNet_2 : decode cX9_readNet 2 = .ok (.iconst 2, 1) := by decide +kernel
theorem dX9_readNet_3 : decode cX9_readNet 3 = .ok (.aload_n 0, 1) := by decide +kernel
theorem dX9_readNet_4 : decode cX9_readNet 4 = .ok (.getfield 31, 3) := by decide +kernel
theorem dX9_readNet_7 : decode cX9_readNet 7 = .ok (.bipush 7, 2) := by decide +kernel
theorem dX9_readNet_9 : decode cX9_readNet 9 = .ok (.iaload, 1) := by decide +kernel
theorem dX9_readNet_10 : decode cX9_readNet 10 = .ok (.imul, 1) := by decide +kernel
theorem dX9_readNet_11 : decode cX9_readNet 11 = .ok (.iadd, 1) := by decide +kernel
theorem dX9_readNet_12 : decode cX9_readNet 12 = .ok (.istore_n 1, 1) := by decide +kernel
theorem dX9_readNet_13 : decode cX9_readNet 13 = .ok (.aload_n 0, 1) := by decide +kernel
theorem dX9_readNet_14 : decode cX9_readNet 14 = .ok (.getfield 31, 3) := by decide +kernel
theorem dX9_readNet_17 : decode cX9_readNet 17 = .ok (.iconst 5, 1) := by decide +kernel
theorem dX9_readNet_18 : decode cX9_readNet 18 = .ok (.iaload, 1) := by decide +kernel
theorem dX9_readNet_19 : decode cX9_readNet 19 = .ok (.iconst 1, 1) := by decide +kernel
theorem dX9_readNet_20 : decode cX9_readNet 20 = .ok (.isub, 1) := by decide +kernel
theorem dX9_readNet_21 : decode cX9_readNet 21 = .ok (.istore_n 2, 1) := by decide +kernel
theorem dX9_readNet_22 : decode cX9_readNet 22 = .ok (.aload_n 0, 1) := by decide +kernel
theorem dX9_readNet_23 : decode cX9_readNet 23 = .ok (.getfield 31, 3) := by decide +kernel
theorem dX9_readNet_26 : decode cX9_readNet 26 = .ok (.iload_n 1, 1) := by decide +kernel
theorem dX9_readNet_27 : decode cX9_readNet 27 = .ok (.aload_n 0, 1) := by decide +kernel
theorem dX9_readNet_28 : decode cX9_readNet 28 = .ok (.iconst 0, 1) := by decide +kernel
theorem dX9_readNet_29 : decode cX9_readNet 29 = .ok (.iload_n 2, 1) := by decide +kernel
theorem dX9_readNet_30 : decode cX9_readNet 30 = .ok (.invokevirtual 172, 3) := by decide +kernel
theorem dX9_readNet_33 : decode cX9_readNet 33 = .ok (.iastore, 1) := by decide +kernel
theorem dX9_readNet_34 : decode cX9_readNet 34 = .ok (.aload_n 0, 1) := by decide +kernel
theorem dX9_readNet_35 : decode cX9_readNet 35 = .ok (.invokevirtual 140, 3) := by decide +kernel
theorem dX9_readNet_38 : decode cX9_readNet 38 = .ok (.ifCond .eq 29, 3) := by decide +kernel
theorem dX9_readNet_41 : decode cX9_readNet 41 = .ok (.aload_n 0, 1) := by decide +kernel
theorem dX9_readNet_42 : decode cX9_readNet 42 = .ok (.getfield 116, 3) := by decide +kernel
theorem dX9_readNet_45 : decode cX9_readNet 45 = .ok (.iconst 2, 1) := by decide +kernel
theorem dX9_readNet_46 : decode cX9_readNet 46 = .ok (.if_icmp .ne 21, 3) := by decide +kernel
theorem dX9_readNet_49 : decode cX9_readNet 49 = .ok (.aload_n 0, 1) := by decide +kernel
theorem dX9_readNet_50 : decode cX9_readNet 50 = .ok (.getfield 127, 3) := by decide +kernel
theorem dX9_readNet_53 : decode cX9_readNet 53 = .ok (.aload_n 0, 1) := by decide +kernel
theorem dX9_readNet_54 : decode cX9_readNet 54 = .ok (.getfield 31, 3) := by decide +kernel
theorem dX9_readNet_57 : decode cX9_readNet 57 = .ok (.iload_n 1, 1) := by decide +kernel
theorem dX9_readNet_58 : decode cX9_readNet 58 = .ok (.iaload, 1) := by decide +kernel
theorem dX9_readNet_59 : decode cX9_readNet 59 = .ok (.if_icmp .ne 8, 3) := by decide +kernel
theorem dX9_readNet_62 : decode cX9_readNet 62 = .ok (.aload_n 0, 1) := by decide +kernel
theorem dX9_readNet_63 : decode cX9_readNet 63 = .ok (.iconst 2, 1) := by decide +kernel
theorem dX9_readNet_64 : decode cX9_readNet 64 = .ok (.invokevirtual 164, 3) := by decide +kernel
theorem dX9_readNet_67 : decode cX9_readNet 67 = .ok (.aload_n 0, 1) := by decide +kernel
theorem dX9_readNet_68 : decode cX9_readNet 68 = .ok (.getfield 31, 3) := by decide +kernel
theorem dX9_readNet_71 : decode cX9_readNet 71 = .ok (.iload_n 1, 1) := by decide +kernel
theorem dX9_readNet_72 : decode cX9_readNet 72 = .ok (.iconst 1, 1) := by decide +kernel
theorem dX9_readNet_73 : decode cX9_readNet 73 = .ok (.iadd, 1) := by decide +kernel
theorem dX9_readNet_74 : decode cX9_readNet 74 = .ok (.aload_n 0, 1) := by decide +kernel
theorem dX9_readNet_75 : decode cX9_readNet 75 = .ok (.iconst 0, 1) := by decide +kernel
theorem dX9_readNet_76 : decode cX9_readNet 76 = .ok (.iload_n 2, 1) := by decide +kernel
theorem dX9_readNet_77 : decode cX9_readNet 77 = .ok (.invokevirtual 172, 3) := by decide +kernel
theorem dX9_readNet_80 : decode cX9_readNet 80 = .ok (.iastore, 1) := by decide +kernel
theorem dX9_readNet_81 : decode cX9_readNet 81 = .ok (.aload_n 0, 1) := by decide +kernel
theorem dX9_readNet_82 : decode cX9_readNet 82 = .ok (.getfield 31, 3) := by decide +kernel
theorem dX9_readNet_85 : decode cX9_readNet 85 = .ok (.bipush 7, 2) := by decide +kernel
theorem dX9_readNet_87 : decode cX9_readNet 87 = .ok (.dup2, 1) := by decide +kernel
theorem dX9_readNet_88 : decode cX9_readNet 88 = .ok (.iaload, 1) := by decide +kernel
theorem dX9_readNet_89 : decode cX9_readNet 89 = .ok (.iconst 1, 1) := by decide +kernel
theorem dX9_readNet_90 : decode cX9_readNet 90 = .ok (.iadd, 1) := by decide +kernel
theorem dX9_readNet_91 : decode cX9_readNet 91 = .ok (.iastore, 1) := by decide +kernel
theorem dX9_readNet_92 : decode cX9_readNet 92 = .ok (.return_, 1) := by decide +kernel
theorem dX9_readPolicy_0 : decode cX9_readPolicy 0 = .ok (.bipush 49, 2) := by decide +kernel
theorem dX9_readPolicy_2 : decode cX9_readPolicy 2 = .ok (.iconst 5, 1) := by decide +kernel
theorem dX9_readPolicy_3 : decode cX9_readPolicy 3 = .ok (.aload_n 0, 1) := by decide +kernel
theorem dX9_readPolicy_4 : decode cX9_readPolicy 4 = .ok (.getfield 31, 3) := by decide +kernel
theorem dX9_readPolicy_7 : decode cX9_readPolicy 7 = .ok (.bipush 8, 2) := by decide +kernel
theorem dX9_readPolicy_9 : decode cX9_readPolicy 9 = .ok (.iaload, 1) := by decide +kernel
theorem dX9_readPolicy_10 : decode cX9_readPolicy 10 = .ok (.imul, 1) := by decide +kernel
theorem dX9_readPolicy_11 : decode cX9_readPolicy 11 = .ok (.iadd, 1) := by decide +kernel
theorem dX9_readPolicy_12 : decode cX9_readPolicy 12 = .ok (.istore_n 1, 1) := by decide +kernel
theorem dX9_readPolicy_13 : decode cX9_readPolicy 13 = .ok (.aload_n 0, 1) := by decide +kernel
theorem dX9_readPolicy_14 : decode cX9_readPolicy 14 = .ok (.getfield 31, 3) := by decide +kernel
theorem dX9_readPolicy_17 : decode cX9_readPolicy 17 = .ok (.iload_n 1, 1) := by decide +kernel
theorem dX9_readPolicy_18 : decode cX9_readPolicy 18 = .ok (.iconst 0, 1) := by decide +kernel
theorem dX9_readPolicy_19 : decode cX9_readPolicy 19 = .ok (.iadd, 1) := by decide +kernel
theorem dX9_readPolicy_20 : decode cX9_readPolicy 20 = .ok (.aload_n 0, 1) := by decide +kernel
theorem dX9_readPolicy_21 : decode cX9_readPolicy 21 = .ok (.iconst 0, 1) := by decide +kernel
theorem dX9_readPolicy_22 : decode cX9_readPolicy 22 = .ok (.aload_n 0, 1) := by decide +kernel
theorem dX9_readPolicy_23 : decode cX9_readPolicy 23 = .ok (.getfield 31, 3) := by decide +kernel
theorem dX9_readPolicy_26 : decode cX9_readPolicy 26 = .ok (.iconst 5, 1) := by decide +kernel
theorem dX9_readPolicy_27 : decode cX9_readPolicy 27 = .ok (.iaload, 1) := by decide +kernel
theorem dX9_readPolicy_28 : decode cX9_readPolicy 28 = .ok (.iconst 1, 1) := by decide +kernel
theorem dX9_readPolicy_29 : decode cX9_readPolicy 29 = .ok (.isub, 1) := by decide +kernel
theorem dX9_readPolicy_30 : decode cX9_readPolicy 30 = .ok (.invokevirtual 172, 3) := by decide +kernel
theorem dX9_readPolicy_33 : decode cX9_readPolicy 33 = .ok (.iastore, 1) := by decide +kernel
theorem dX9_readPolicy_34 : decode cX9_readPolicy 34 = .ok (.aload_n 0, 1) := by decide +kernel
theorem dX9_readPolicy_35 : decode cX9_readPolicy 35 = .ok (.getfield 31, 3) := by decide +kernel
theorem dX9_readPolicy_38 : decode cX9_readPolicy 38 = .ok (.iload_n 1, 1) := by decide +kernel
theorem dX9_readPolicy_39 : decode cX9_readPolicy 39 = .ok (.iconst 1, 1) := by decide +kernel
theorem dX9_readPolicy_40 : decode cX9_readPolicy 40 = .ok (.iadd, 1) := by decide +kernel
theorem dX9_readPolicy_41 : decode cX9_readPolicy 41 = .ok (.aload_n 0, 1) := by decide +kernel
theorem dX9_readPolicy_42 : decode cX9_readPolicy 42 = .ok (.ldc 191, 2) := by decide +kernel
theorem dX9_readPolicy_44 : decode cX9_readPolicy 44 = .ok (.iconst 0, 1) := by decide +kernel
theorem dX9_readPolicy_45 : decode cX9_readPolicy 45 = .ok (.bipush 29, 2) := by decide +kernel
theorem dX9_readPolicy_47 : decode cX9_readPolicy 47 = .ok (.invokevirtual 179, 3) := by decide +kernel
theorem dX9_readPolicy_50 : decode cX9_readPolicy 50 = .ok (.iastore, 1) := by decide +kernel
theorem dX9_readPolicy_51 : decode cX9_readPolicy 51 = .ok (.aload_n 0, 1) := by decide +kernel
theorem dX9_readPolicy_52 : decode cX9_readPolicy 52 = .ok (.getfield 31, 3) := by decide +kernel
theorem dX9_readPolicy_55 : decode cX9_readPolicy 55 = .ok (.iload_n 1, 1) := by decide +kernel
theorem dX9_readPolicy_56 : decode cX9_readPolicy 56 = .ok (.iconst 2, 1) := by decide +kernel
theorem dX9_readPolicy_57 : decode cX9_readPolicy 57 = .ok (.iadd, 1) := by decide +kernel
theorem dX9_readPolicy_58 : decode cX9_readPolicy 58 = .ok (.aload_n 0, 1) := by decide +kernel
theorem dX9_readPolicy_59 : decode cX9_readPolicy 59 = .ok (.ldc 192, 2) := by decide +kernel
theorem dX9_readPolicy_61 : decode cX9_readPolicy 61 = .ok (.aload_n 0, 1) := by decide +kernel
theorem dX9_readPolicy_62 : decode cX9_readPolicy 62 = .ok (.getfield 31, 3) := by decide +kernel
theorem dX9_readPolicy_65 : decode cX9_readPolicy 65 = .ok (.iload_n 1, 1) := by decide +kernel
theorem dX9_readPolicy_66 : decode cX9_readPolicy 66 = .ok (.iconst 1, 1) := by decide +kernel
theorem dX9_readPolicy_67 : decode cX9_readPolicy 67 = .ok (.iadd, 1) := by decide +kernel
theorem dX9_readPolicy_68 : decode cX9_readPolicy 68 = .ok (.iaload, 1) := by decide +kernel
theorem dX9_readPolicy_69 : decode cX9_readPolicy 69 = .ok (.bipush 29, 2) := by decide +kernel
theorem dX9_readPolicy_71 : decode cX9_readPolicy 71 = .ok (.invokevirtual 179, 3) := by decide +kernel
theorem dX9_readPolicy_74 : decode cX9_readPolicy 74 = .ok (.iastore, 1) := by decide +kernel
theorem dX9_readPolicy_75 : decode cX9_readPolicy 75 = .ok (.aload_n 0, 1) := by decide +kernel
theorem dX9_readPolicy_76 : decode cX9_readPolicy 76 = .ok (.getfield 31, 3) := by decide +kernel
theorem dX9_readPolicy_79 : decode cX9_readPolicy 79 = .ok (.iload_n 1, 1) := by decide +kernel
theorem dX9_readPolicy_80 : decode cX9_readPolicy 80 = .ok (.iconst 3, 1) := by decide +kernel
theorem dX9_readPolicy_81 : decode cX9_readPolicy 81 = .ok (.iadd, 1) := by decide +kernel
theorem dX9_readPolicy_82 : decode cX9_readPolicy 82 = .ok (.aload_n 0, 1) := by decide +kernel
theorem dX9_readPolicy_83 : decode cX9_readPolicy 83 = .ok (.ldc 194, 2) := by decide +kernel
theorem dX9_readPolicy_85 : decode cX9_readPolicy 85 = .ok (.iconst 1, 1) := by decide +kernel
theorem dX9_readPolicy_86 : decode cX9_readPolicy 86 = .ok (.bipush 99, 2) := by decide +kernel
theorem dX9_readPolicy_88 : decode cX9_readPolicy 88 = .ok (.invokevirtual 179, 3) := by decide +kernel
theorem dX9_readPolicy_91 : decode cX9_readPolicy 91 = .ok (.iastore, 1) := by decide +kernel
theorem dX9_readPolicy_92 : decode cX9_readPolicy 92 = .ok (.aload_n 0, 1) := by decide +kernel
theorem dX9_readPolicy_93 : decode cX9_readPolicy 93 = .ok (.getfield 31, 3) := by decide +kernel
theorem dX9_readPolicy_96 : decode cX9_readPolicy 96 = .ok (.iload_n 1, 1) := by decide +kernel
theorem dX9_readPolicy_97 : decode cX9_readPolicy 97 = .ok (.iconst 4, 1) := by decide +kernel
theorem dX9_readPolicy_98 : decode cX9_readPolicy 98 = .ok (.iadd, 1) := by decide +kernel
theorem dX9_readPolicy_99 : decode cX9_readPolicy 99 = .ok (.aload_n 0, 1) := by decide +kernel
theorem dX9_readPolicy_100 : decode cX9_readPolicy 100 = .ok (.ldc 196, 2) := by decide +kernel
theorem dX9_readPolicy_102 : decode cX9_readPolicy 102 = .ok (.iconst 0, 1) := by decide +kernel
theorem dX9_readPolicy_103 : decode cX9_readPolicy 103 = .ok (.bipush 99, 2) := by decide +kernel
theorem dX9_readPolicy_105 : decode cX9_readPolicy 105 = .ok (.invokevirtual 179, 3) := by decide +kernel
theorem dX9_readPolicy_108 : decode cX9_readPolicy 108 = .ok (.iastore, 1) := by decide +kernel
theorem dX9_readPolicy_109 : decode cX9_readPolicy 109 = .ok (.aload_n 0, 1) := by decide +kernel
theorem dX9_readPolicy_110 : decode cX9_readPolicy 110 = .ok (.getfield 31, 3) := by decide +kernel
theorem dX9_readPolicy_113 : decode cX9_readPolicy 113 = .ok (.bipush 8, 2) := by decide +kernel
theorem dX9_readPolicy_115 : decode cX9_readPolicy 115 = .ok (.dup2, 1) := by decide +kernel
theorem dX9_readPolicy_116 : decode cX9_readPolicy 116 = .ok (.iaload, 1) := by decide +kernel
theorem dX9_readPolicy_117 : decode cX9_readPolicy 117 = .ok (.iconst 1, 1) := by decide +kernel
theorem dX9_readPolicy_118 : decode cX9_readPolicy 118 = .ok (.iadd, 1) := by decide +kernel
theorem dX9_readPolicy_119 : decode cX9_readPolicy 119 = .ok (.iastore, 1) := by decide +kernel
theorem dX9_readPolicy_120 : decode cX9_readPolicy 120 = .ok (.return_, 1) := by decide +kernel
theorem dX9_readNext_0 : decode cX9_readNext 0 = .ok (.aload_n 0, 1) := by decide +kernel
theorem dX9_readNext_1 : decode cX9_readNext 1 = .ok (.ldc 198, 2) := by decide +kernel
theorem dX9_readNext_3 : decode cX9_readNext 3 = .ok (.invokevirtual 154, 3) := by decide +kernel
theorem dX9_readNext_6 : decode cX9_readNext 6 = .ok (.ifCond .ne 30, 3) := by decide +kernel
theorem dX9_readNext_9 : decode cX9_readNext 9 = .ok (.aload_n 0, 1) := by decide +kernel
theorem dX9_readNext_10 : decode cX9_readNext 10 = .ok (.ldc 200, 2) := by decide +kernel
theorem dX9_readNext_12 : decode cX9_readNext 12 = .ok (.invokevirtual 154, 3) := by decide +kernel
theorem dX9_readNext_15 : decode cX9_readNext 15 = .ok (.ifCond .ne 21, 3) := by decide +kernel
theorem dX9_readNext_18 : decode cX9_readNext 18 = .ok (.aload_n 0, 1) := by decide +kernel
theorem dX9_readNext_19 : decode cX9_readNext 19 = .ok (.ldc 202, 2) := by decide +kernel
theorem dX9_readNext_21 : decode cX9_readNext 21 = .ok (.invokevirtual 154, 3) := by decide +kernel
theorem dX9_readNext_24 : decode cX9_readNext 24 = .ok (.ifCond .ne 12, 3) := by decide +kernel
theorem dX9_readNext_27 : decode cX9_readNext 27 = .ok (.aload_n 0, 1) := by decide +kernel
theorem dX9_readNext_28 : decode cX9_readNext 28 = .ok (.ldc 204, 2) := by decide +kernel
theorem dX9_readNext_30 : decode cX9_readNext 30 = .ok (.invokevirtual 154, 3) := by decide +kernel
theorem dX9_readNext_33 : decode cX9_readNext 33 = .ok (.ifCond .eq 7, 3) := by decide +kernel
theorem dX9_readNext_36 : decode cX9_readNext 36 = .ok (.iconst 1, 1) := by decide +kernel
theorem dX9_readNext_37 : decode cX9_readNext 37 = .ok (.goto 4, 3) := by decide +kernel
theorem dX9_readNext_40 : decode cX9_readNext 40 = .ok (.iconst 0, 1) := by decide +kernel
theorem dX9_readNext_41 : decode cX9_readNext 41 = .ok (.istore_n 1, 1) := by decide +kernel
theorem dX9_readNext_42 : decode cX9_readNext 42 = .ok (.iload_n 1, 1) := by decide +kernel
theorem dX9_readNext_43 : decode cX9_readNext 43 = .ok (.ifCond .ne 8, 3) := by decide +kernel
theorem dX9_readNext_46 : decode cX9_readNext 46 = .ok (.aload_n 0, 1) := by decide +kernel
theorem dX9_readNext_47 : decode cX9_readNext 47 = .ok (.iconst 1, 1) := by decide +kernel
theorem dX9_readNext_48 : decode cX9_readNext 48 = .ok (.invokevirtual 164, 3) := by decide +kernel
theorem dX9_readNext_51 : decode cX9_readNext 51 = .ok (.aload_n 0, 1) := by decide +kernel
theorem dX9_readNext_52 : decode cX9_readNext 52 = .ok (.ldc 198, 2) := by decide +kernel
theorem dX9_readNext_54 : decode cX9_readNext 54 = .ok (.invokevirtual 154, 3) := by decide +kernel
theorem dX9_readNext_57 : decode cX9_readNext 57 = .ok (.ifCond .eq 14, 3) := by decide +kernel
theorem dX9_readNext_60 : decode cX9_readNext 60 = .ok (.aload_n 0, 1) := by decide +kernel
theorem dX9_readNext_61 : decode cX9_readNext 61 = .ok (.getfield 31, 3) := by decide +kernel
theorem dX9_readNext_64 : decode cX9_readNext 64 = .ok (.iconst 5, 1) := by decide +kernel
theorem dX9_readNext_65 : decode cX9_readNext 65 = .ok (.iaload, 1) := by decide +kernel
theorem dX9_readNext_66 : decode cX9_readNext 66 = .ok (.bipush 6, 2) := by decide +kernel
theorem dX9_readNext_68 : decode cX9_readNext 68 = .ok (.if_icmp .eq 23, 3) := by decide +kernel
theorem dX9_readNext_71 : decode cX9_readNext 71 = .ok (.aload_n 0, 1) := by decide +kernel
theorem dX9_readNext_72 : decode cX9_readNext 72 = .ok (.ldc 200, 2) := by decide +kernel
theorem dX9_readNext_74 : decode cX9_readNext 74 = .ok (.invokevirtual 154, 3) := by decide +kernel
theorem dX9_readNext_77 : decode cX9_readNext 77 = .ok (.ifCond .eq 19, 3) := by decide +kernel
theorem dX9_readNext_80 : decode cX9_readNext 80 = .ok (.aload_n 0, 1) := by decide +kernel
theorem dX9_readNext_81 : decode cX9_readNext 81 = .ok (.getfield 31, 3) := by decide +kernel
theorem dX9_readNext_84 : decode cX9_readNext 84 = .ok (.bipush 6, 2) := by decide +kernel
theorem dX9_readNext_86 : decode cX9_readNext 86 = .ok (.iaload, 1) := by decide +kernel
theorem dX9_readNext_87 : decode cX9_readNext 87 = .ok (.iconst 5, 1) := by decide +kernel
theorem dX9_readNext_88 : decode cX9_readNext 88 = .ok (.if_icmp .ne 8, 3) := by decide +kernel
theorem dX9_readNext_91 : decode cX9_readNext 91 = .ok (.aload_n 0, 1) := by decide +kernel
theorem dX9_readNext_92 : decode cX9_readNext 92 = .ok (.iconst 3, 1) := by decide +kernel
theorem dX9_readNext_93 : decode cX9_readNext 93 = .ok (.invokevirtual 164, 3) := by decide +kernel
theorem dX9_readNext_96 : decode cX9_readNext 96 = .ok (.aload_n 0, 1) := by decide +kernel
theorem dX9_readNext_97 : decode cX9_readNext 97 = .ok (.ldc 202, 2) := by decide +kernel
theorem dX9_readNext_99 : decode cX9_readNext 99 = .ok (.invokevirtual 154, 3) := by decide +kernel
theorem dX9_readNext_102 : decode cX9_readNext 102 = .ok (.ifCond .eq 15, 3) := by decide +kernel
theorem dX9_readNext_105 : decode cX9_readNext 105 = .ok (.aload_n 0, 1) := by decide +kernel
theorem dX9_readNext_106 : decode cX9_readNext 106 = .ok (.getfield 31, 3) := by decide +kernel
theorem dX9_readNext_109 : decode cX9_readNext 109 = .ok (.bipush 7, 2) := by decide +kernel
theorem dX9_readNext_111 : decode cX9_readNext 111 = .ok (.iaload, 1) := by decide +kernel
theorem dX9_readNext_112 : decode cX9_readNext 112 = .ok (.bipush 8, 2) := by decide +kernel
theorem dX9_readNext_114 : decode cX9_readNext 114 = .ok (.if_icmp .eq 24, 3) := by decide +kernel
theorem dX9_readNext_117 : decode cX9_readNext 117 = .ok (.aload_n 0, 1) := by decide +kernel
theorem dX9_readNext_118 : decode cX9_readNext 118 = .ok (.ldc 204, 2) := by decide +kernel
theorem dX9_readNext_120 : decode cX9_readNext 120 = .ok (.invokevirtual 154, 3) := by decide +kernel
theorem dX9_readNext_123 : decode cX9_readNext 123 = .ok (.ifCond .eq 20, 3) := by decide +kernel
theorem dX9_readNext_126 : decode cX9_readNext 126 = .ok (.aload_n 0, 1) := by decide +kernel
theorem dX9_readNext_127 : decode cX9_readNext 127 = .ok (.getfield 31, 3) := by decide +kernel
theorem dX9_readNext_130 : decode cX9_readNext 130 = .ok (.bipush 8, 2) := by decide +kernel
theorem dX9_readNext_132 : decode cX9_readNext 132 = .ok (.iaload, 1) := by decide +kernel
theorem dX9_readNext_133 : decode cX9_readNext 133 = .ok (.bipush 6, 2) := by decide +kernel
theorem dX9_readNext_135 : decode cX9_readNext 135 = .ok (.if_icmp .ne 8, 3) := by decide +kernel
theorem dX9_readNext_138 : decode cX9_readNext 138 = .ok (.aload_n 0, 1) := by decide +kernel
theorem dX9_readNext_139 : decode cX9_readNext 139 = .ok (.iconst 3, 1) := by decide +kernel
theorem dX9_readNext_140 : decode cX9_readNext 140 = .ok (.invokevirtual 164, 3) := by decide +kernel
theorem dX9_readNext_143 : decode cX9_readNext 143 = .ok (.aload_n 0, 1) := by decide +kernel
theorem dX9_readNext_144 : decode cX9_readNext 144 = .ok (.invokevirtual 140, 3) := by decide +kernel
theorem dX9_readNext_147 : decode cX9_readNext 147 = .ok (.ifCond .ne 4, 3) := by decide +kernel
theorem dX9_readNext_150 : decode cX9_readNext 150 = .ok (.return_, 1) := by decide +kernel
theorem dX9_readNext_151 : decode cX9_readNext 151 = .ok (.aload_n 0, 1) := by decide +kernel
theorem dX9_readNext_152 : decode cX9_readNext 152 = .ok (.ldc 198, 2) := by decide +kernel
theorem dX9_readNext_154 : decode cX9_readNext 154 = .ok (.invokevirtual 161, 3) := by decide +kernel
theorem dX9_readNext_157 : decode cX9_readNext 157 = .ok (.ifCond .eq 58, 3) := by decide +kernel
theorem dX9_readNext_160 : decode cX9_readNext 160 = .ok (.bipush 11, 2) := by decide +kernel
theorem dX9_readNext_162 : decode cX9_readNext 162 = .ok (.iconst 2, 1) := by decide +kernel
theorem dX9_readNext_163 : decode cX9_readNext 163 = .ok (.aload_n 0, 1) := by decide +kernel
theorem dX9_readNext_164 : decode cX9_readNext 164 = .ok (.getfield 31, 3) := by decide +kernel
theorem dX9_readNext_167 : decode cX9_readNext 167 = .ok (.iconst 5, 1) := by decide +kernel
theorem dX9_readNext_168 : decode cX9_readNext 168 = .ok (.iaload, 1) := by decide +kernel
theorem dX9_readNext_169 : decode cX9_readNext 169 = .ok (.imul, 1) := by decide +kernel
theorem dX9_readNext_170 : decode cX9_readNext 170 = .ok (.iadd, 1) := by decide +kernel
theorem dX9_readNext_171 : decode cX9_readNext 171 = .ok (.istore_n 2, 1) := by decide +kernel
theorem dX9_readNext_172 : decode cX9_readNext 172 = .ok (.aload_n 0, 1) := by decide +kernel
theorem dX9_readNext_173 : decode cX9_readNext 173 = .ok (.getfield 31, 3) := by decide +kernel
theorem dX9_readNext_176 : decode cX9_readNext 176 = .ok (.iload_n 2, 1) := by decide +kernel
theorem dX9_readNext_177 : decode cX9_readNext 177 = .ok (.aload_n 0, 1) := by decide +kernel
theorem dX9_readNext_178 : decode cX9_readNext 178 = .ok (.iconst 0, 1) := by decide +kernel
theorem dX9_readNext_179 : decode cX9_readNext 179 = .ok (.bipush 9, 2) := by decide +kernel
theorem dX9_readNext_181 : decode cX9_readNext 181 = .ok (.invokevirtual 172, 3) := by decide +kernel
theorem dX9_readNext_184 : decode cX9_readNext 184 = .ok (.iastore, 1) := by decide +kernel
theorem dX9_readNext_185 : decode cX9_readNext 185 = .ok (.aload_n 0, 1) := by decide +kernel
theorem dX9_readNext_186 : decode cX9_readNext 186 = .ok (.getfield 31, 3) := by decide +kernel
theorem dX9_readNext_189 : decode cX9_readNext 189 = .ok (.iload_n 2, 1) := by decide +kernel
theorem dX9_readNext_190 : decode cX9_readNext 190 = .ok (.iconst 1, 1) := by decide +kernel
theorem dX9_readNext_191 : decode cX9_readNext 191 = .ok (.iadd, 1) := by decide +kernel
theorem dX9_readNext_192 : decode cX9_readNext 192 = .ok (.aload_n 0, 1) := by decide +kernel
theorem dX9_readNext_193 : decode cX9_readNext 193 = .ok (.ldc 206, 2) := by decide +kernel
theorem dX9_readNext_195 : decode cX9_readNext 195 = .ok (.iconst 1, 1) := by decide +kernel
theorem dX9_readNext_196 : decode cX9_readNext 196 = .ok (.bipush 99, 2) := by decide +kernel
theorem dX9_readNext_198 : decode cX9_readNext 198 = .ok (.invokevirtual 179, 3) := by decide +kernel
theorem dX9_readNext_201 : decode cX9_readNext 201 = .ok (.iastore, 1) := by decide +kernel
theorem dX9_readNext_202 : decode cX9_readNext 202 = .ok (.aload_n 0, 1) := by decide +kernel
theorem dX9_readNext_203 : decode cX9_readNext 203 = .ok (.getfield 31, 3) := by decide +kernel
theorem dX9_readNext_206 : decode cX9_readNext 206 = .ok (.iconst 5, 1) := by decide +kernel
theorem dX9_readNext_207 : decode cX9_readNext 207 = .ok (.dup2, 1) := by decide +kernel
theorem dX9_readNext_208 : decode cX9_readNext 208 = .ok (.iaload, 1) := by decide +kernel
theorem dX9_readNext_209 : decode cX9_readNext 209 = .ok (.iconst 1, 1) := by decide +kernel
theorem dX9_readNext_210 : decode cX9_readNext 210 = .ok (.iadd, 1) := by decide +kernel
theorem dX9_readNext_211 : decode cX9_readNext 211 = .ok (.iastore, 1) := by decide +kernel
theorem dX9_readNext_212 : decode cX9_readNext 212 = .ok (.goto 93, 3) := by decide +kernel
theorem dX9_readNext_215 : decode cX9_readNext 215 = .ok (.aload_n 0, 1) := by decide +kernel
theorem dX9_readNext_216 : decode cX9_readNext 216 = .ok (.ldc 200, 2) := by decide +kernel
theorem dX9_readNext_218 : decode cX9_readNext 218 = .ok (.invokevirtual 161, 3) := by decide +kernel
theorem dX9_readNext_221 : decode cX9_readNext 221 = .ok (.ifCond .eq 60, 3) := by decide +kernel
theorem dX9_readNext_224 : decode cX9_readNext 224 = .ok (.bipush 23, 2) := by decide +kernel
theorem dX9_readNext_226 : decode cX9_readNext 226 = .ok (.iconst 2, 1) := by decide +kernel
theorem dX9_readNext_227 : decode cX9_readNext 227 = .ok (.aload_n 0, 1) := by decide +kernel
theorem dX9_readNext_228 : decode cX9_readNext 228 = .ok (.getfield 31, 3) := by decide +kernel
theorem dX9_readNext_231 : decode cX9_readNext 231 = .ok (.bipush 6, 2) := by decide +kernel
theorem dX9_readNext_233 : decode cX9_readNext 233 = .ok (.iaload, 1) := by decide +kernel
theorem dX9_readNext_234 : decode cX9_readNext 234 = .ok (.imul, 1) := by decide +kernel
theorem dX9_readNext_235 : decode cX9_readNext 235 = .ok (.iadd, 1) := by decide +kernel
theorem dX9_readNext_236 : decode cX9_readNext 236 = .ok (.istore_n 2, 1) := by decide +kernel
theorem dX9_readNext_237 : decode cX9_readNext 237 = .ok (.aload_n 0, 1) := by decide +kernel
theorem dX9_readNext_238 : decode cX9_readNext 238 = .ok (.getfield 31, 3) := by decide +kernel
theorem dX9_readNext_241 : decode cX9_readNext 241 = .ok (.iload_n 2, 1) := by decide +kernel
theorem dX9_readNext_242 : decode cX9_readNext 242 = .ok (.aload_n 0, 1) := by decide +kernel
theorem dX9_readNext_243 : decode cX9_readNext 243 = .ok (.iconst 1, 1) := by decide +kernel
theorem dX9_readNext_244 : decode cX9_readNext 244 = .ok (.bipush 9, 2) := by decide +kernel
theorem dX9_readNext_246 : decode cX9_readNext 246 = .ok (.invokevirtual 172, 3) := by decide +kernel
theorem dX9_readNext_249 : decode cX9_readNext 249 = .ok (.iastore, 1) := by decide +kernel
theorem dX9_readNext_250 : decode cX9_readNext 250 = .ok (.aload_n 0, 1) := by decide +kernel
theorem dX9_readNext_251 : decode cX9_readNext 251 = .ok (.getfield 31, 3) := by decide +kernel
theorem dX9_readNext_254 : decode cX9_readNext 254 = .ok (.iload_n 2, 1) := by decide +kernel
theorem dX9_readNext_255 : decode cX9_readNext 255 = .ok (.iconst 1, 1) := by decide +kernel
theorem dX9_readNext_256 : decode cX9_readNext 256 = .ok (.iadd, 1) := by decide +kernel
theorem dX9_readNext_257 : decode cX9_readNext 257 = .ok (.aload_n 0, 1) := by decide +kernel
theorem dX9_readNext_258 : decode cX9_readNext 258 = .ok (.ldc 208, 2) := by decide +kernel
theorem dX9_readNext_260 : decode cX9_readNext 260 = .ok (.iconst 0, 1) := by decide +kernel
theorem dX9_readNext_261 : decode cX9_readNext 261 = .ok (.bipush 29, 2) := by decide +kernel
theorem dX9_readNext_263 : decode cX9_readNext 263 = .ok (.invokevirtual 179, 3) := by decide +kernel
theorem dX9_readNext_266 : decode cX9_readNext 266 = .ok (.iastore, 1) := by decide +kernel
theorem dX9_readNext_267 : decode cX9_readNext 267 = .ok (.aload_n 0, 1) := by decide +kernel
theorem dX9_readNext_268 : decode cX9_readNext 268 = .ok (.getfield 31, 3) := by decide +kernel
theorem dX9_readNext_271 : decode cX9_readNext 271 = .ok (.bipush 6, 2) := by decide +kernel
theorem dX9_readNext_273 : decode cX9_readNext 273 = .ok (.dup2, 1) := by decide +kernel
theorem dX9_readNext_274 : decode cX9_readNext 274 = .ok (.iaload, 1) := by decide +kernel
theorem dX9_readNext_275 : decode cX9_readNext 275 = .ok (.iconst 1, 1) := by decide +kernel
theorem dX9_readNext_276 : decode cX9_readNext 276 = .ok (.iadd, 1) := by decide +kernel
theorem dX9_readNext_277 : decode cX9_readNext 277 = .ok (.iastore, 1) := by decide +kernel
theorem dX9_readNext_278 : decode cX9_readNext 278 = .ok (.goto 27, 3) := by decide +kernel
theorem dX9_readNext_281 : decode cX9_readNext 281 = .ok (.aload_n 0, 1) := by decide +kernel
theorem dX9_readNext_282 : decode cX9_readNext 282 = .ok (.ldc 202, 2) := by decide +kernel
theorem dX9_readNext_284 : decode cX9_readNext 284 = .ok (.invokevirtual 161, 3) := by decide +kernel
theorem dX9_readNext_287 : decode cX9_readNext 287 = .ok (.ifCond .eq 10, 3) := by decide +kernel
theorem dX9_readNext_290 : decode cX9_readNext 290 = .ok (.aload_n 0, 1) := by decide +kernel
theorem dX9_readNext_291 : decode cX9_readNext 291 = .ok (.invokevirtual 209, 3) := by decide +kernel
theorem dX9_readNext_294 : decode cX9_readNext 294 = .ok (.goto 11, 3) := by decide +kernel
theorem dX9_readNext_297 : decode cX9_readNext 297 = .ok (.aload_n 0, 1) := by decide +kernel
theorem dX9_readNext_298 : decode cX9_readNext 298 = .ok (.invokevirtual 158, 3) := by decide +kernel
theorem dX9_readNext_301 : decode cX9_readNext 301 = .ok (.aload_n 0, 1) := by decide +kernel
theorem dX9_readNext_302 : decode cX9_readNext 302 = .ok (.invokevirtual 212, 3) := by decide +kernel
theorem dX9_readNext_305 : decode cX9_readNext 305 = .ok (.return_, 1) := by decide +kernel
theorem dX9_readLine_0 : decode cX9_readLine 0 = .ok (.aload_n 0, 1) := by decide +kernel
theorem dX9_readLine_1 : decode cX9_readLine 1 = .ok (.getfield 31, 3) := by decide +kernel
theorem dX9_readLine_4 : decode cX9_readLine 4 = .ok (.bipush 10, 2) := by decide +kernel
theorem dX9_readLine_6 : decode cX9_readLine 6 = .ok (.iaload, 1) := by decide +kernel
theorem dX9_readLine_7 : decode cX9_readLine 7 = .ok (.ifCond .ne 10, 3) := by decide +kernel
theorem dX9_readLine_10 : decode cX9_readLine 10 = .ok (.aload_n 0, 1) := by decide +kernel
theorem dX9_readLine_11 : decode cX9_readLine 11 = .ok (.invokevirtual 215, 3) := by decide +kernel
theorem dX9_readLine_14 : decode cX9_readLine 14 = .ok (.goto 7, 3) := by decide +kernel
theorem dX9_readLine_17 : decode cX9_readLine 17 = .ok (.aload_n 0, 1) := by decide +kernel
theorem dX9_readLine_18 : decode cX9_readLine 18 = .ok (.invokevirtual 218, 3) := by decide +kernel
theorem dX9_readLine_21 : decode cX9_readLine 21 = .ok (.aload_n 0, 1) := by decide +kernel
theorem dX9_readLine_22 : decode cX9_readLine 22 = .ok (.invokevirtual 140, 3) := by decide +kernel
theorem dX9_readLine_25 : decode cX9_readLine 25 = .ok (.ifCond .eq 16, 3) := by decide +kernel
theorem dX9_readLine_28 : decode cX9_readLine 28 = .ok (.aload_n 0, 1) := by decide +kernel
theorem dX9_readLine_29 : decode cX9_readLine 29 = .ok (.getfield 116, 3) := by decide +kernel
theorem dX9_readLine_32 : decode cX9_readLine 32 = .ok (.iconst 3, 1) := by decide +kernel
theorem dX9_readLine_33 : decode cX9_readLine 33 = .ok (.if_icmp .eq 8, 3) := by decide +kernel
theorem dX9_readLine_36 : decode cX9_readLine 36 = .ok (.aload_n 0, 1) := by decide +kernel
theorem dX9_readLine_37 : decode cX9_readLine 37 = .ok (.iconst 1, 1) := by decide +kernel
theorem dX9_readLine_38 : decode cX9_readLine 38 = .ok (.invokevirtual 164, 3) := by decide +kernel
theorem dX9_readLine_41 : decode cX9_readLine 41 = .ok (.aload_n 0, 1) := by decide +kernel
theorem dX9_readLine_42 : decode cX9_readLine 42 = .ok (.invokevirtual 140, 3) := by decide +kernel
theorem dX9_readLine_45 : decode cX9_readLine 45 = .ok (.ifCond .eq 7, 3) := by decide +kernel
theorem dX9_readLine_48 : decode cX9_readLine 48 = .ok (.aload_n 0, 1) := by decide +kernel
theorem dX9_readLine_49 : decode cX9_readLine 49 = .ok (.invokevirtual 158, 3) := by decide +kernel
theorem dX9_readLine_52 : decode cX9_readLine 52 = .ok (.aload_n 0, 1) := by decide +kernel
theorem dX9_readLine_53 : decode cX9_readLine 53 = .ok (.getfield 31, 3) := by decide +kernel
theorem dX9_readLine_56 : decode cX9_readLine 56 = .ok (.bipush 10, 2) := by decide +kernel
theorem dX9_readLine_58 : decode cX9_readLine 58 = .ok (.dup2, 1) := by decide +kernel
theorem dX9_readLine_59 : decode cX9_readLine 59 = .ok (.iaload, 1) := by decide +kernel
theorem dX9_readLine_60 : decode cX9_readLine 60 = .ok (.iconst 1, 1) := by decide +kernel
theorem dX9_readLine_61 : decode cX9_readLine 61 = .ok (.iadd, 1) := by decide +kernel
theorem dX9_readLine_62 : decode cX9_readLine 62 = .ok (.iastore, 1) := by decide +kernel
theorem dX9_readLine_63 : decode cX9_readLine 63 = .ok (.return_, 1) := by decide +kernel
theorem dX9_house_0 : decode cX9_house 0 = .ok (.aload_n 0, 1) := by decide +kernel
theorem dX9_house_1 : decode cX9_house 1 = .ok (.aload_n 0, 1) := by decide +kernel
theorem dX9_house_2 : decode cX9_house 2 = .ok (.getfield 100, 3) := by decide +kernel
theorem dX9_house_5 : decode cX9_house 5 = .ok (.putfield 103, 3) := by decide +kernel
theorem dX9_house_8 : decode cX9_house 8 = .ok (.aload_n 0, 1) := by decide +kernel
theorem dX9_house_9 : decode cX9_house 9 = .ok (.iconst 0, 1) := by decide +kernel
theorem dX9_house_10 : decode cX9_house 10 = .ok (.putfield 100, 3) := by decide +kernel
theorem dX9_house_13 : decode cX9_house 13 = .ok (.aload_n 0, 1) := by decide +kernel
theorem dX9_house_14 : decode cX9_house 14 = .ok (.iconst 0, 1) := by decide +kernel
theorem dX9_house_15 : decode cX9_house 15 = .ok (.putfield 106, 3) := by decide +kernel
theorem dX9_house_18 : decode cX9_house 18 = .ok (.aload_n 0, 1) := by decide +kernel
theorem dX9_house_19 : decode cX9_house 19 = .ok (.iconst 0, 1) := by decide +kernel
theorem dX9_house_20 : decode cX9_house 20 = .ok (.putfield 137, 3) := by decide +kernel
theorem dX9_house_23 : decode cX9_house 23 = .ok (.aload_n 0, 1) := by decide +kernel
theorem dX9_house_24 : decode cX9_house 24 = .ok (.iconst (-1), 1) := by decide +kernel
theorem dX9_house_25 : decode cX9_house 25 = .ok (.putfield 27, 3) := by decide +kernel
theorem dX9_house_28 : decode cX9_house 28 = .ok (.iconst 0, 1) := by decide +kernel
theorem dX9_house_29 : decode cX9_house 29 = .ok (.istore_n 1, 1) := by decide +kernel
theorem dX9_house_30 : decode cX9_house 30 = .ok (.iload_n 1, 1) := by decide +kernel
theorem dX9_house_31 : decode cX9_house 31 = .ok (.bipush 119, 2) := by decide +kernel
theorem dX9_house_33 : decode cX9_house 33 = .ok (.if_icmp .ge 16, 3) := by decide +kernel
theorem dX9_house_36 : decode cX9_house 36 = .ok (.aload_n 0, 1) := by decide +kernel
theorem dX9_house_37 : decode cX9_house 37 = .ok (.getfield 31, 3) := by decide +kernel
theorem dX9_house_40 : decode cX9_house 40 = .ok (.iload_n 1, 1) := by decide +kernel
theorem dX9_house_41 : decode cX9_house 41 = .ok (.iconst 0, 1) := by decide +kernel
theorem dX9_house_42 : decode cX9_house 42 = .ok (.iastore, 1) := by decide +kernel
theorem dX9_house_43 : decode cX9_house 43 = .ok (.iinc 1 1, 3) := by decide +kernel
theorem dX9_house_46 : decode cX9_house 46 = .ok (.goto (-16), 3) := by decide +kernel
theorem dX9_house_49 : decode cX9_house 49 = .ok (.aload_n 0, 1) := by decide +kernel
theorem dX9_house_50 : decode cX9_house 50 = .ok (.invokevirtual 158, 3) := by decide +kernel
theorem dX9_house_53 : decode cX9_house 53 = .ok (.aload_n 0, 1) := by decide +kernel
theorem dX9_house_54 : decode cX9_house 54 = .ok (.invokevirtual 140, 3) := by decide +kernel
theorem dX9_house_57 : decode cX9_house 57 = .ok (.ifCond .eq 17, 3) := by decide +kernel
theorem dX9_house_60 : decode cX9_house 60 = .ok (.aload_n 0, 1) := by decide +kernel
theorem dX9_house_61 : decode cX9_house 61 = .ok (.getfield 116, 3) := by decide +kernel
theorem dX9_house_64 : decode cX9_house 64 = .ok (.ifCond .eq 10, 3) := by decide +kernel
theorem dX9_house_67 : decode cX9_house 67 = .ok (.aload_n 0, 1) := by decide +kernel
theorem dX9_house_68 : decode cX9_house 68 = .ok (.invokevirtual 221, 3) := by decide +kernel
theorem dX9_house_71 : decode cX9_house 71 = .ok (.goto (-18), 3) := by decide +kernel
theorem dX9_house_74 : decode cX9_house 74 = .ok (.aload_n 0, 1) := by decide +kernel
theorem dX9_house_75 : decode cX9_house 75 = .ok (.invokevirtual 140, 3) := by decide +kernel
theorem dX9_house_78 : decode cX9_house 78 = .ok (.ifCond .ne 6, 3) := by decide +kernel
theorem dX9_house_81 : decode cX9_house 81 = .ok (.bipush (-4), 2) := by decide +kernel
theorem dX9_house_83 : decode cX9_house 83 = .ok (.ireturn, 1) := by decide +kernel
theorem dX9_house_84 : decode cX9_house 84 = .ok (.iconst 0, 1) := by decide +kernel
theorem dX9_house_85 : decode cX9_house 85 = .ok (.istore_n 1, 1) := by decide +kernel
theorem dX9_house_86 : decode cX9_house 86 = .ok (.iload_n 1, 1) := by decide +kernel
theorem dX9_house_87 : decode cX9_house 87 = .ok (.bipush 119, 2) := by decide +kernel
theorem dX9_house_89 : decode cX9_house 89 = .ok (.if_icmp .ge 21, 3) := by decide +kernel
theorem dX9_house_92 : decode cX9_house 92 = .ok (.aload_n 0, 1) := by decide +kernel
theorem dX9_house_93 : decode cX9_house 93 = .ok (.getfield 9, 3) := by decide +kernel
theorem dX9_house_96 : decode cX9_house 96 = .ok (.iload_n 1, 1) := by decide +kernel
theorem dX9_house_97 : decode cX9_house 97 = .ok (.aload_n 0, 1) := by decide +kernel
theorem dX9_house_98 : decode cX9_house 98 = .ok (.getfield 31, 3) := by decide +kernel
theorem dX9_house_101 : decode cX9_house 101 = .ok (.iload_n 1, 1) := by decide +kernel
theorem dX9_house_102 : decode cX9_house 102 = .ok (.iaload, 1) := by decide +kernel
theorem dX9_house_103 : decode cX9_house 103 = .ok (.iastore, 1) := by decide +kernel
theorem dX9_house_104 : decode cX9_house 104 = .ok (.iinc 1 1, 3) := by decide +kernel
theorem dX9_house_107 : decode cX9_house 107 = .ok (.goto (-21), 3) := by decide +kernel
theorem dX9_house_110 : decode cX9_house 110 = .ok (.aload_n 0, 1) := by decide +kernel
theorem dX9_house_111 : decode cX9_house 111 = .ok (.getfield 9, 3) := by decide +kernel
theorem dX9_house_114 : decode cX9_house 114 = .ok (.bipush 10, 2) := by decide +kernel
theorem dX9_house_116 : decode cX9_house 116 = .ok (.iaload, 1) := by decide +kernel
theorem dX9_house_117 : decode cX9_house 117 = .ok (.ireturn, 1) := by decide +kernel
theorem dX9_nose_0 : decode cX9_nose 0 = .ok (.aload_n 0, 1) := by decide +kernel
theorem dX9_nose_1 : decode cX9_nose 1 = .ok (.iload_n 1, 1) := by decide +kernel
theorem dX9_nose_2 : decode cX9_nose 2 = .ok (.i2l, 1) := by decide +kernel
theorem dX9_nose_3 : decode cX9_nose 3 = .ok (.invokevirtual 224, 3) := by decide +kernel
theorem dX9_nose_6 : decode cX9_nose 6 = .ok (.ifCond .eq 29, 3) := by decide +kernel
theorem dX9_nose_9 : decode cX9_nose 9 = .ok (.iload_n 2, 1) := by decide +kernel
theorem dX9_nose_10 : decode cX9_nose 10 = .ok (.i2l, 1) := by decide +kernel
theorem dX9_nose_11 : decode cX9_nose 11 = .ok (.lconst 0, 1) := by decide +kernel
theorem dX9_nose_12 : decode cX9_nose 12 = .ok (.lconst 1, 1) := by decide +kernel
theorem dX9_nose_13 : decode cX9_nose 13 = .ok (.invokestatic 94, 3) := by decide +kernel
theorem dX9_nose_16 : decode cX9_nose 16 = .ok (.ifCond .eq 19, 3) := by decide +kernel
theorem dX9_nose_19 : decode cX9_nose 19 = .ok (.aload_n 0, 1) := by decide +kernel
theorem dX9_nose_20 : decode cX9_nose 20 = .ok (.getfield 9, 3) := by decide +kernel
theorem dX9_nose_23 : decode cX9_nose 23 = .ok (.bipush 11, 2) := by decide +kernel
theorem dX9_nose_25 : decode cX9_nose 25 = .ok (.iconst 2, 1) := by decide +kernel
theorem dX9_nose_26 : decode cX9_nose 26 = .ok (.iload_n 1, 1) := by decide +kernel
theorem dX9_nose_27 : decode cX9_nose 27 = .ok (.imul, 1) := by decide +kernel
theorem dX9_nose_28 : decode cX9_nose 28 = .ok (.iadd, 1) := by decide +kernel
theorem dX9_nose_29 : decode cX9_nose 29 = .ok (.iload_n 2, 1) := by decide +kernel
theorem dX9_nose_30 : decode cX9_nose 30 = .ok (.iadd, 1) := by decide +kernel
theorem dX9_nose_31 : decode cX9_nose 31 = .ok (.iaload, 1) := by decide +kernel
theorem dX9_nose_32 : decode cX9_nose 32 = .ok (.goto 5, 3) := by decide +kernel
theorem dX9_nose_35 : decode cX9_nose 35 = .ok (.bipush (-2), 2) := by decide +kernel
theorem dX9_nose_37 : decode cX9_nose 37 = .ok (.ireturn, 1) := by decide +kernel
theorem dX9_policy_0 : decode cX9_policy 0 = .ok (.aload_n 0, 1) := by decide +kernel
theorem dX9_policy_1 : decode cX9_policy 1 = .ok (.iload_n 1, 1) := by decide +kernel
theorem dX9_policy_2 : decode cX9_policy 2 = .ok (.invokevirtual 228, 3) := by decide +kernel
theorem dX9_policy_5 : decode cX9_policy 5 = .ok (.ifCond .eq 24, 3) := by decide +kernel
theorem dX9_policy_8 : decode cX9_policy 8 = .ok (.iload_n 2, 1) := by decide +kernel
theorem dX9_policy_9 : decode cX9_policy 9 = .ok (.i2l, 1) := by decide +kernel
theorem dX9_policy_10 : decode cX9_policy 10 = .ok (.lconst 0, 1) := by decide +kernel
theorem dX9_policy_11 : decode cX9_policy 11 = .ok (.ldc2_w 232, 3) := by decide +kernel
theorem dX9_policy_14 : decode cX9_policy 14 = .ok (.invokestatic 94, 3) := by decide +kernel
theorem dX9_policy_17 : decode cX9_policy 17 = .ok (.ifCond .eq 12, 3) := by decide +kernel
theorem dX9_policy_20 : decode cX9_policy 20 = .ok (.aload_n 0, 1) := by decide +kernel
theorem dX9_policy_21 : decode cX9_policy 21 = .ok (.iload_n 1, 1) := by decide +kernel
theorem dX9_policy_22 : decode cX9_policy 22 = .ok (.iload_n 2, 1) := by decide +kernel
theorem dX9_policy_23 : decode cX9_policy 23 = .ok (.invokevirtual 234, 3) := by decide +kernel
theorem dX9_policy_26 : decode cX9_policy 26 = .ok (.goto 5, 3) := by decide +kernel
theorem dX9_policy_29 : decode cX9_policy 29 = .ok (.bipush (-2), 2) := by decide +kernel
theorem dX9_policy_31 : decode cX9_policy 31 = .ok (.ireturn, 1) := by decide +kernel
theorem dX9_asItIs_0 : decode cX9_asItIs 0 = .ok (.aload_n 0, 1) := by decide +kernel
theorem dX9_asItIs_1 : decode cX9_asItIs 1 = .ok (.iconst 0, 1) := by decide +kernel
theorem dX9_asItIs_2 : decode cX9_asItIs 2 = .ok (.putfield 237, 3) := by decide +kernel
theorem dX9_asItIs_5 : decode cX9_asItIs 5 = .ok (.aload_n 0, 1) := by decide +kernel
theorem dX9_asItIs_6 : decode cX9_asItIs 6 = .ok (.iconst (-1), 1) := by decide +kernel
theorem dX9_asItIs_7 : decode cX9_asItIs 7 = .ok (.putfield 240, 3) := by decide +kernel
theorem dX9_asItIs_10 : decode cX9_asItIs 10 = .ok (.aload_n 0, 1) := by decide +kernel
theorem dX9_asItIs_11 : decode cX9_asItIs 11 = .ok (.aload_n 0, 1) := by decide +kernel
theorem dX9_asItIs_12 : decode cX9_asItIs 12 = .ok (.getfield 9, 3) := by decide +kernel
theorem dX9_asItIs_15 : decode cX9_asItIs 15 = .ok (.iconst 2, 1) := by decide +kernel
theorem dX9_asItIs_16 : decode cX9_asItIs 16 = .ok (.iaload, 1) := by decide +kernel
theorem dX9_asItIs_17 : decode cX9_asItIs 17 = .ok (.putfield 243, 3) := by decide +kernel
theorem dX9_asItIs_20 : decode cX9_asItIs 20 = .ok (.aload_n 0, 1) := by decide +kernel
theorem dX9_asItIs_21 : decode cX9_asItIs 21 = .ok (.aload_n 0, 1) := by decide +kernel
theorem dX9_asItIs_22 : decode cX9_asItIs 22 = .ok (.getfield 9, 3) := by decide +kernel
theorem dX9_asItIs_25 : decode cX9_asItIs 25 = .ok (.iconst 3, 1) := by decide +kernel
theorem dX9_asItIs_26 : decode cX9_asItIs 26 = .ok (.iaload, 1) := by decide +kernel
theorem dX9_asItIs_27 : decode cX9_asItIs 27 = .ok (.putfield 246, 3) := by decide +kernel
theorem dX9_asItIs_30 : decode cX9_asItIs 30 = .ok (.aload_n 0, 1) := by decide +kernel
theorem dX9_asItIs_31 : decode cX9_asItIs 31 = .ok (.aload_n 0, 1) := by decide +kernel
theorem dX9_asItIs_32 : decode cX9_asItIs 32 = .ok (.invokevirtual 249, 3) := by decide +kernel
theorem dX9_asItIs_35 : decode cX9_asItIs 35 = .ok (.iconst 1, 1) := by decide +kernel
theorem dX9_asItIs_36 : decode cX9_asItIs 36 = .ok (.isub, 1) := by decide +kernel
theorem dX9_asItIs_37 : decode cX9_asItIs 37 = .ok (.putfield 251, 3) := by decide +kernel
theorem dX9_asItIs_40 : decode cX9_asItIs 40 = .ok (.iconst 0, 1) := by decide +kernel
theorem dX9_asItIs_41 : decode cX9_asItIs 41 = .ok (.istore_n 1, 1) := by decide +kernel
theorem dX9_asItIs_42 : decode cX9_asItIs 42 = .ok (.iload_n 1, 1) := by decide +kernel
theorem dX9_asItIs_43 : decode cX9_asItIs 43 = .ok (.bipush 30, 2) := by decide +kernel
theorem dX9_asItIs_45 : decode cX9_asItIs 45 = .ok (.if_icmp .ge 21, 3) := by decide +kernel
theorem dX9_asItIs_48 : decode cX9_asItIs 48 = .ok (.aload_n 0, 1) := by decide +kernel
theorem dX9_asItIs_49 : decode cX9_asItIs 49 = .ok (.getfield 34, 3) := by decide +kernel
theorem dX9_asItIs_52 : decode cX9_asItIs 52 = .ok (.iload_n 1, 1) := by decide +kernel
theorem dX9_asItIs_53 : decode cX9_asItIs 53 = .ok (.aload_n 0, 1) := by decide +kernel
theorem dX9_asItIs_54 : decode cX9_asItIs 54 = .ok (.getfield 9, 3) := by decide +kernel
theorem dX9_asItIs_57 : decode cX9_asItIs 57 = .ok (.iconst 1, 1) := by decide +kernel
theorem dX9_asItIs_58 : decode cX9_asItIs 58 = .ok (.iaload, 1) := by decide +kernel
theorem dX9_asItIs_59 : decode cX9_asItIs 59 = .ok (.iastore, 1) := by decide +kernel
theorem dX9_asItIs_60 : decode cX9_asItIs 60 = .ok (.iinc 1 1, 3) := by decide +kernel
theorem dX9_asItIs_63 : decode cX9_asItIs 63 = .ok (.goto (-21), 3) := by decide +kernel
theorem dX9_asItIs_66 : decode cX9_asItIs 66 = .ok (.iconst 0, 1) := by decide +kernel
theorem dX9_asItIs_67 : decode cX9_asItIs 67 = .ok (.istore_n 1, 1) := by decide +kernel
theorem dX9_asItIs_68 : decode cX9_asItIs 68 = .ok (.iload_n 1, 1) := by decide +kernel
theorem dX9_asItIs_69 : decode cX9_asItIs 69 = .ok (.aload_n 0, 1) := by decide +kernel
theorem dX9_asItIs_70 : decode cX9_asItIs 70 = .ok (.getfield 9, 3) := by decide +kernel
theorem dX9_asItIs_73 : decode cX9_asItIs 73 = .ok (.bipush 6, 2) := by decide +kernel
theorem dX9_asItIs_75 : decode cX9_asItIs 75 = .ok (.iaload, 1) := by decide +kernel
theorem dX9_asItIs_76 : decode cX9_asItIs 76 = .ok (.if_icmp .ge 55, 3) := by decide +kernel
theorem dX9_asItIs_79 : decode cX9_asItIs 79 = .ok (.aload_n 0, 1) := by decide +kernel
theorem dX9_asItIs_80 : decode cX9_asItIs 80 = .ok (.getfield 9, 3) := by decide +kernel
theorem dX9_asItIs_83 : decode cX9_asItIs 83 = .ok (.bipush 23, 2) := by decide +kernel
theorem dX9_asItIs_85 : decode cX9_asItIs 85 = .ok (.iconst 2, 1) := by decide +kernel
theorem dX9_asItIs_86 : decode cX9_asItIs 86 = .ok (.iload_n 1, 1) := by decide +kernel
theorem dX9_asItIs_87 : decode cX9_asItIs 87 = .ok (.imul, 1) := by decide +kernel
theorem dX9_asItIs_88 : decode cX9_asItIs 88 = .ok (.iadd, 1) := by decide +kernel
theorem dX9_asItIs_89 : decode cX9_asItIs 89 = .ok (.iconst 1, 1) := by decide +kernel
theorem dX9_asItIs_90 : decode cX9_asItIs 90 = .ok (.iadd, 1) := by decide +kernel
theorem dX9_asItIs_91 : decode cX9_asItIs 91 = .ok (.iaload, 1) := by decide +kernel
theorem dX9_asItIs_92 : decode cX9_asItIs 92 = .ok (.istore_n 2, 1) := by decide +kernel
theorem dX9_asItIs_93 : decode cX9_asItIs 93 = .ok (.aload_n 0, 1) := by decide +kernel
theorem dX9_asItIs_94 : decode cX9_asItIs 94 = .ok (.getfield 34, 3) := by decide +kernel
theorem dX9_asItIs_97 : decode cX9_asItIs 97 = .ok (.iload_n 2, 1) := by decide +kernel
theorem dX9_asItIs_98 : decode cX9_asItIs 98 = .ok (.dup2, 1) := by decide +kernel
theorem dX9_asItIs_99 : decode cX9_asItIs 99 = .ok (.iaload, 1) := by decide +kernel
theorem dX9_asItIs_100 : decode cX9_asItIs 100 = .ok (.aload_n 0, 1) := by decide +kernel
theorem dX9_asItIs_101 : decode cX9_asItIs 101 = .ok (.getfield 9, 3) := by decide +kernel
theorem dX9_asItIs_104 : decode cX9_asItIs 104 = .ok (.bipush 23, 2) := by decide +kernel
theorem dX9_asItIs_106 : decode cX9_asItIs 106 = .ok (.iconst 2, 1) := by decide +kernel
theorem dX9_asItIs_107 : decode cX9_asItIs 107 = .ok (.iload_n 1, 1) := by decide +kernel
theorem dX9_asItIs_108 : decode cX9_asItIs 108 = .ok (.imul, 1) := by decide +kernel
theorem dX9_asItIs_109 : decode cX9_asItIs 109 = .ok (.iadd, 1) := by decide +kernel
theorem dX9_asItIs_110 : decode cX9_asItIs 110 = .ok (.iaload, 1) := by decide +kernel
theorem dX9_asItIs_111 : decode cX9_asItIs 111 = .ok (.iadd, 1) := by decide +kernel
theorem dX9_asItIs_112 : decode cX9_asItIs 112 = .ok (.iastore, 1) := by decide +kernel
theorem dX9_asItIs_113 : decode cX9_asItIs 113 = .ok (.aload_n 0, 1) := by decide +kernel
theorem dX9_asItIs_114 : decode cX9_asItIs 114 = .ok (.dup, 1) := by decide +kernel
theorem dX9_asItIs_115 : decode cX9_asItIs 115 = .ok (.getfield 237, 3) := by decide +kernel
theorem dX9_asItIs_118 : decode cX9_asItIs 118 = .ok (.iconst 1, 1) := by decide +kernel
theorem dX9_asItIs_119 : decode cX9_asItIs 119 = .ok (.iload_n 2, 1) := by decide +kernel
theorem dX9_asItIs_120 : decode cX9_asItIs 120 = .ok (.ishl, 1) := by decide +kernel
theorem dX9_asItIs_121 : decode cX9_asItIs 121 = .ok (.ior, 1) := by decide +kernel
theorem dX9_asItIs_122 : decode cX9_asItIs 122 = .ok (.putfield 237, 3) := by decide +kernel
theorem dX9_asItIs_125 : decode cX9_asItIs 125 = .ok (.iinc 1 1, 3) := by decide +kernel
theorem dX9_asItIs_128 : decode cX9_asItIs 128 = .ok (.goto (-60), 3) := by decide +kernel
theorem dX9_asItIs_131 : decode cX9_asItIs 131 = .ok (.iconst 0, 1) := by decide +kernel
theorem dX9_asItIs_132 : decode cX9_asItIs 132 = .ok (.istore_n 1, 1) := by decide +kernel
theorem dX9_asItIs_133 : decode cX9_asItIs 133 = .ok (.iload_n 1, 1) := by decide +kernel
theorem dX9_asItIs_134 : decode cX9_asItIs 134 = .ok (.bipush 6, 2) := by decide +kernel
theorem dX9_asItIs_136 : decode cX9_asItIs 136 = .ok (.if_icmp .ge 23, 3) := by decide +kernel
theorem dX9_asItIs_139 : decode cX9_asItIs 139 = .ok (.aload_n 0, 1) := by decide +kernel
theorem dX9_asItIs_140 : decode cX9_asItIs 140 = .ok (.getfield 37, 3) := by decide +kernel
theorem dX9_asItIs_143 : decode cX9_asItIs 143 = .ok (.iload_n 1, 1) := by decide +kernel
theorem dX9_asItIs_144 : decode cX9_asItIs 144 = .ok (.iconst 0, 1) := by decide +kernel
theorem dX9_asItIs_145 : decode cX9_asItIs 145 = .ok (.iastore, 1) := by decide +kernel
theorem dX9_asItIs_146 : decode cX9_asItIs 146 = .ok (.aload_n 0, 1) := by decide +kernel
theorem dX9_asItIs_147 : decode cX9_asItIs 147 = .ok (.getfield 40, 3) := by decide +kernel
theorem dX9_asItIs_150 : decode cX9_asItIs 150 = .ok (.iload_n 1, 1) := by decide +kernel
theorem dX9_asItIs_151 : decode cX9_asItIs 151 = .ok (.iconst 0, 1) := by decide +kernel
theorem dX9_asItIs_152 : decode cX9_asItIs 152 = .ok (.iastore, 1) := by decide +kernel
theorem dX9_asItIs_153 : decode cX9_asItIs 153 = .ok (.iinc 1 1, 3) := by decide +kernel
theorem dX9_asItIs_156 : decode cX9_asItIs 156 = .ok (.goto (-23), 3) := by decide +kernel
theorem dX9_asItIs_159 : decode cX9_asItIs 159 = .ok (.iconst 0, 1) := by decide +kernel
theorem dX9_asItIs_160 : decode cX9_asItIs 160 = .ok (.istore_n 1, 1) := by decide +kernel
theorem dX9_asItIs_161 : decode cX9_asItIs 161 = .ok (.iload_n 1, 1) := by decide +kernel
theorem dX9_asItIs_162 : decode cX9_asItIs 162 = .ok (.aload_n 0, 1) := by decide +kernel
theorem dX9_asItIs_163 : decode cX9_asItIs 163 = .ok (.getfield 9, 3) := by decide +kernel
theorem dX9_asItIs_166 : decode cX9_asItIs 166 = .ok (.bipush 9, 2) := by decide +kernel
theorem dX9_asItIs_168 : decode cX9_asItIs 168 = .ok (.iaload, 1) := by decide +kernel
theorem dX9_asItIs_169 : decode cX9_asItIs 169 = .ok (.if_icmp .ge 69, 3) := by decide +kernel
theorem dX9_asItIs_172 : decode cX9_asItIs 172 = .ok (.aload_n 0, 1) := by decide +kernel
theorem dX9_asItIs_173 : decode cX9_asItIs 173 = .ok (.getfield 9, 3) := by decide +kernel
theorem dX9_asItIs_176 : decode cX9_asItIs 176 = .ok (.bipush 79, 2) := by decide +kernel
theorem dX9_asItIs_178 : decode cX9_asItIs 178 = .ok (.iload_n 1, 1) := by decide +kernel
theorem dX9_asItIs_179 : decode cX9_asItIs 179 = .ok (.iadd, 1) := by decide +kernel
theorem dX9_asItIs_180 : decode cX9_asItIs 180 = .ok (.iaload, 1) := by decide +kernel
theorem dX9_asItIs_181 : decode cX9_asItIs 181 = .ok (.istore_n 2, 1) := by decide +kernel
theorem dX9_asItIs_182 : decode cX9_asItIs 182 = .ok (.iload_n 2, 1) := by decide +kernel
theorem dX9_asItIs_183 : decode cX9_asItIs 183 = .ok (.sipush 200, 3) := by decide +kernel
theorem dX9_asItIs_186 : decode cX9_asItIs 186 = .ok (.idiv, 1) := by decide +kernel
theorem dX9_asItIs_187 : decode cX9_asItIs 187 = .ok (.istore_n 3, 1) := by decide +kernel
theorem dX9_asItIs_188 : decode cX9_asItIs 188 = .ok (.iload_n 2, 1) := by decide +kernel
theorem dX9_asItIs_189 : decode cX9_asItIs 189 = .ok (.iconst 2, 1) := by decide +kernel
theorem dX9_asItIs_190 : decode cX9_asItIs 190 = .ok (.idiv, 1) := by decide +kernel
theorem dX9_asItIs_191 : decode cX9_asItIs 191 = .ok (.bipush 100, 2) := by decide +kernel
theorem dX9_asItIs_193 : decode cX9_asItIs 193 = .ok (.irem, 1) := by decide +kernel
theorem dX9_asItIs_194 : decode cX9_asItIs 194 = .ok (.istore 4, 2) := by decide +kernel
theorem dX9_asItIs_196 : decode cX9_asItIs 196 = .ok (.iload_n 2, 1) := by decide +kernel
theorem dX9_asItIs_197 : decode cX9_asItIs 197 = .ok (.iconst 2, 1) := by decide +kernel
theorem dX9_asItIs_198 : decode cX9_asItIs 198 = .ok (.irem, 1) := by decide +kernel
theorem dX9_asItIs_199 : decode cX9_asItIs 199 = .ok (.iconst 1, 1) := by decide +kernel
theorem dX9_asItIs_200 : decode cX9_asItIs 200 = .ok (.if_icmp .ne 19, 3) := by decide +kernel
theorem dX9_asItIs_203 : decode cX9_asItIs 203 = .ok (.aload_n 0, 1) := by decide +kernel
theorem dX9_asItIs_204 : decode cX9_asItIs 204 = .ok (.getfield 40, 3) := by decide +kernel
theorem dX9_asItIs_207 : decode cX9_asItIs 207 = .ok (.iload_n 3, 1) := by decide +kernel
theorem dX9_asItIs_208 : decode cX9_asItIs 208 = .ok (.dup2, 1) := by decide +kernel
theorem dX9_asItIs_209 : decode cX9_asItIs 209 = .ok (.iaload, 1) := by decide +kernel
theorem dX9_asItIs_210 : decode cX9_asItIs 210 = .ok (.iconst 1, 1) := by decide +kernel
theorem dX9_asItIs_211 : decode cX9_asItIs 211 = .ok (.iload 4, 2) := by decide +kernel
theorem dX9_asItIs_213 : decode cX9_asItIs 213 = .ok (.ishl, 1) := by decide +kernel
theorem dX9_asItIs_214 : decode cX9_asItIs 214 = .ok (.ior, 1) := by decide +kernel
theorem dX9_asItIs_215 : decode cX9_asItIs 215 = .ok (.iastore, 1) := by decide +kernel
theorem dX9_asItIs_216 : decode cX9_asItIs 216 = .ok (.goto 16, 3) := by decide +kernel
theorem dX9_asItIs_219 : decode cX9_asItIs 219 = .ok (.aload_n 0, 1) := by decide +kernel
theorem dX9_asItIs_220 : decode cX9_asItIs 220 = .ok (.getfield 37, 3) := by decide +kernel
theorem dX9_asItIs_223 : decode cX9_asItIs 223 = .ok (.iload_n 3, 1) := by decide +kernel
theorem dX9_asItIs_224 : decode cX9_asItIs 224 = .ok (.dup2, 1) := by decide +kernel
theorem dX9_asItIs_225 : decode cX9_asItIs 225 = .ok (.iaload, 1) := by decide +kernel
theorem dX9_asItIs_226 : decode cX9_asItIs 226 = .ok (.iconst 1, 1) := by decide +kernel
theorem dX9_asItIs_227 : decode cX9_asItIs 227 = .ok (.iload 4, 2) := by decide +kernel
theorem dX9_asItIs_229 : decode cX9_asItIs 229 = .ok (.ishl, 1) := by decide +kernel
theorem dX9_asItIs_230 : decode cX9_asItIs 230 = .ok (.ior, 1) := by decide +kernel
theorem dX9_asItIs_231 : decode cX9_asItIs 231 = .ok (.iastore, 1) := by decide +kernel
theorem dX9_asItIs_232 : decode cX9_asItIs 232 = .ok (.iinc 1 1, 3) := by decide +kernel
theorem dX9_asItIs_235 : decode cX9_asItIs 235 = .ok (.goto (-74), 3) := by decide +kernel
theorem dX9_asItIs_238 : decode cX9_asItIs 238 = .ok (.return_, 1) := by decide +kernel
theorem dX9_netsTo_0 : decode cX9_netsTo 0 = .ok (.iconst 0, 1) := by decide +kernel
theorem dX9_netsTo_1 : decode cX9_netsTo 1 = .ok (.istore_n 3, 1) := by decide +kernel
theorem dX9_netsTo_2 : decode cX9_netsTo 2 = .ok (.iconst 0, 1) := by decide +kernel
theorem dX9_netsTo_3 : decode cX9_netsTo 3 = .ok (.istore 4, 2) := by decide +kernel
theorem dX9_netsTo_5 : decode cX9_netsTo 5 = .ok (.iload 4, 2) := by decide +kernel
theorem dX9_netsTo_7 : decode cX9_netsTo 7 = .ok (.aload_n 0, 1) := by decide +kernel
theorem dX9_netsTo_8 : decode cX9_netsTo 8 = .ok (.getfield 9, 3) := by decide +kernel
theorem dX9_netsTo_11 : decode cX9_netsTo 11 = .ok (.bipush 7, 2) := by decide +kernel
theorem dX9_netsTo_13 : decode cX9_netsTo 13 = .ok (.iaload, 1) := by decide +kernel
theorem dX9_netsTo_14 : decode cX9_netsTo 14 = .ok (.if_icmp .ge 83, 3) := by decide +kernel
theorem dX9_netsTo_17 : decode cX9_netsTo 17 = .ok (.aload_n 0, 1) := by decide +kernel
theorem dX9_netsTo_18 : decode cX9_netsTo 18 = .ok (.getfield 9, 3) := by decide +kernel
theorem dX9_netsTo_21 : decode cX9_netsTo 21 = .ok (.bipush 33, 2) := by decide +kernel
theorem dX9_netsTo_23 : decode cX9_netsTo 23 = .ok (.iconst 2, 1) := by decide +kernel
theorem dX9_netsTo_24 : decode cX9_netsTo 24 = .ok (.iload 4, 2) := by decide +kernel
theorem dX9_netsTo_26 : decode cX9_netsTo 26 = .ok (.imul, 1) := by decide +kernel
theorem dX9_netsTo_27 : decode cX9_netsTo 27 = .ok (.iadd, 1) := by decide +kernel
theorem dX9_netsTo_28 : decode cX9_netsTo 28 = .ok (.iaload, 1) := by decide +kernel
theorem dX9_netsTo_29 : decode cX9_netsTo 29 = .ok (.istore 5, 2) := by decide +kernel
theorem dX9_netsTo_31 : decode cX9_netsTo 31 = .ok (.aload_n 0, 1) := by decide +kernel
theorem dX9_netsTo_32 : decode cX9_netsTo 32 = .ok (.getfield 9, 3) := by decide +kernel
theorem dX9_netsTo_35 : decode cX9_netsTo 35 = .ok (.bipush 33, 2) := by decide +kernel
theorem dX9_netsTo_37 : decode cX9_netsTo 37 = .ok (.iconst 2, 1) := by decide +kernel
theorem dX9_netsTo_38 : decode cX9_netsTo 38 = .ok (.iload 4, 2) := by decide +kernel
theorem dX9_netsTo_40 : decode cX9_netsTo 40 = .ok (.imul, 1) := by decide +kernel
theorem dX9_netsTo_41 : decode cX9_netsTo 41 = .ok (.iadd, 1) := by decide +kernel
theorem dX9_netsTo_42 : decode cX9_netsTo 42 = .ok (.iconst 1, 1) := by decide +kernel
theorem dX9_netsTo_43 : decode cX9_netsTo 43 = .ok (.iadd, 1) := by decide +kernel
theorem dX9_netsTo_44 : decode cX9_netsTo 44 = .ok (.iaload, 1) := by decide +kernel
theorem dX9_netsTo_45 : decode cX9_netsTo 45 = .ok (.istore 6, 2) := by decide +kernel
theorem dX9_netsTo_47 : decode cX9_netsTo 47 = .ok (.iload 4, 2) := by decide +kernel
theorem dX9_netsTo_49 : decode cX9_netsTo 49 = .ok (.aload_n 0, 1) := by decide +kernel
theorem dX9_netsTo_50 : decode cX9_netsTo 50 = .ok (.getfield 240, 3) := by decide +kernel
theorem dX9_netsTo_53 : decode cX9_netsTo 53 = .ok (.if_icmp .eq 38, 3) := by decide +kernel
theorem dX9_netsTo_56 : decode cX9_netsTo 56 = .ok (.iload 5, 2) := by decide +kernel
theorem dX9_netsTo_58 : decode cX9_netsTo 58 = .ok (.iload_n 1, 1) := by decide +kernel
theorem dX9_netsTo_59 : decode cX9_netsTo 59 = .ok (.if_icmp .ne 13, 3) := by decide +kernel
theorem dX9_netsTo_62 : decode cX9_netsTo 62 = .ok (.iload_n 2, 1) := by decide +kernel
theorem dX9_netsTo_63 : decode cX9_netsTo 63 = .ok (.iload 6, 2) := by decide +kernel
theorem dX9_netsTo_65 : decode cX9_netsTo 65 = .ok (.invokestatic 254, 3) := by decide +kernel
theorem dX9_netsTo_68 : decode cX9_netsTo 68 = .ok (.iconst 1, 1) := by decide +kernel
theorem dX9_netsTo_69 : decode cX9_netsTo 69 = .ok (.if_icmp .eq 19, 3) := by decide +kernel
theorem dX9_netsTo_72 : decode cX9_netsTo 72 = .ok (.iload 6, 2) := by decide +kernel
theorem dX9_netsTo_74 : decode cX9_netsTo 74 = .ok (.iload_n 1, 1) := by decide +kernel
theorem dX9_netsTo_75 : decode cX9_netsTo 75 = .ok (.if_icmp .ne 16, 3) := by decide +kernel
theorem dX9_netsTo_78 : decode cX9_netsTo 78 = .ok (.iload_n 2, 1) := by decide +kernel
theorem dX9_netsTo_79 : decode cX9_netsTo 79 = .ok (.iload 5, 2) := by decide +kernel
theorem dX9_netsTo_81 : decode cX9_netsTo 81 = .ok (.invokestatic 254, 3) := by decide +kernel
theorem dX9_netsTo_84 : decode cX9_netsTo 84 = .ok (.iconst 1, 1) := by decide +kernel
theorem dX9_netsTo_85 : decode cX9_netsTo 85 = .ok (.if_icmp .ne 6, 3) := by decide +kernel
theorem dX9_netsTo_88 : decode cX9_netsTo 88 = .ok (.iinc 3 1, 3) := by decide +kernel
theorem dX9_netsTo_91 : decode cX9_netsTo 91 = .ok (.iinc 4 1, 3) := by decide +kernel
theorem dX9_netsTo_94 : decode cX9_netsTo 94 = .ok (.goto (-89), 3) := by decide +kernel
theorem dX9_netsTo_97 : decode cX9_netsTo 97 = .ok (.iload_n 3, 1) := by decide +kernel
theorem dX9_netsTo_98 : decode cX9_netsTo 98 = .ok (.ireturn, 1) := by decide +kernel
theorem dX9_goMinute_0 : decode cX9_goMinute 0 = .ok (.aload_n 0, 1) := by decide +kernel
theorem dX9_goMinute_1 : decode cX9_goMinute 1 = .ok (.getfield 46, 3) := by decide +kernel
theorem dX9_goMinute_4 : decode cX9_goMinute 4 = .ok (.iload_n 1, 1) := by decide +kernel
theorem dX9_goMinute_5 : decode cX9_goMinute 5 = .ok (.iconst 0, 1) := by decide +kernel
theorem dX9_goMinute_6 : decode cX9_goMinute 6 = .ok (.iastore, 1) := by decide +kernel
theorem dX9_goMinute_7 : decode cX9_goMinute 7 = .ok (.iload_n 1, 1) := by decide +kernel
theorem dX9_goMinute_8 : decode cX9_goMinute 8 = .ok (.ifCond .ne 7, 3) := by decide +kernel
theorem dX9_goMinute_11 : decode cX9_goMinute 11 = .ok (.iconst 0, 1) := by decide +kernel
theorem dX9_goMinute_12 : decode cX9_goMinute 12 = .ok (.goto 11, 3) := by decide +kernel
theorem dX9_goMinute_15 : decode cX9_goMinute 15 = .ok (.aload_n 0, 1) := by decide +kernel
theorem dX9_goMinute_16 : decode cX9_goMinute 16 = .ok (.getfield 46, 3) := by decide +kernel
theorem dX9_goMinute_19 : decode cX9_goMinute 19 = .ok (.iload_n 1, 1) := by decide +kernel
theorem dX9_goMinute_20 : decode cX9_goMinute 20 = .ok (.iconst 1, 1) := by decide +kernel
theorem dX9_goMinute_21 : decode cX9_goMinute 21 = .ok (.isub, 1) := by decide +kernel
theorem dX9_goMinute_22 : decode cX9_goMinute 22 = .ok (.iaload, 1) := by decide +kernel
theorem dX9_goMinute_23 : decode cX9_goMinute 23 = .ok (.istore_n 2, 1) := by decide +kernel
theorem dX9_goMinute_24 : decode cX9_goMinute 24 = .ok (.iconst 0, 1) := by decide +kernel
theorem dX9_goMinute_25 : decode cX9_goMinute 25 = .ok (.istore_n 3, 1) := by decide +kernel
theorem dX9_goMinute_26 : decode cX9_goMinute 26 = .ok (.iload_n 3, 1) := by decide +kernel
theorem dX9_goMinute_27 : decode cX9_goMinute 27 = .ok (.aload_n 0, 1) := by decide +kernel
theorem dX9_goMinute_28 : decode cX9_goMinute 28 = .ok (.getfield 9, 3) := by decide +kernel
theorem dX9_goMinute_31 : decode cX9_goMinute 31 = .ok (.iconst 5, 1) := by decide +kernel
theorem dX9_goMinute_32 : decode cX9_goMinute 32 = .ok (.iaload, 1) := by decide +kernel
theorem dX9_goMinute_33 : decode cX9_goMinute 33 = .ok (.if_icmp .ge 198, 3) := by decide +kernel
theorem dX9_goMinute_36 : decode cX9_goMinute 36 = .ok (.iconst 5, 1) := by decide +kernel
theorem dX9_goMinute_37 : decode cX9_goMinute 37 = .ok (.aload_n 0, 1) := by decide +kernel
theorem dX9_goMinute_38 : decode cX9_goMinute 38 = .ok (.iload_n 3, 1) := by decide +kernel
theorem dX9_goMinute_39 : decode cX9_goMinute 39 = .ok (.iload_n 2, 1) := by decide +kernel
theorem dX9_goMinute_40 : decode cX9_goMinute 40 = .ok (.invokevirtual 257, 3) := by decide +kernel
theorem dX9_goMinute_43 : decode cX9_goMinute 43 = .ok (.imul, 1) := by decide +kernel
theorem dX9_goMinute_44 : decode cX9_goMinute 44 = .ok (.istore 4, 2) := by decide +kernel
theorem dX9_goMinute_46 : decode cX9_goMinute 46 = .ok (.aload_n 0, 1) := by decide +kernel
theorem dX9_goMinute_47 : decode cX9_goMinute 47 = .ok (.getfield 9, 3) := by decide +kernel
theorem dX9_goMinute_50 : decode cX9_goMinute 50 = .ok (.bipush 11, 2) := by decide +kernel
theorem dX9_goMinute_52 : decode cX9_goMinute 52 = .ok (.iconst 2, 1) := by decide +kernel
theorem dX9_goMinute_53 : decode cX9_goMinute 53 = .ok (.iload_n 3, 1) := by decide +kernel
theorem dX9_goMinute_54 : decode cX9_goMinute 54 = .ok (.imul, 1) := by decide +kernel
theorem dX9_goMinute_55 : decode cX9_goMinute 55 = .ok (.iadd, 1) := by decide +kernel
theorem dX9_goMinute_56 : decode cX9_goMinute 56 = .ok (.iaload, 1) := by decide +kernel
theorem dX9_goMinute_57 : decode cX9_goMinute 57 = .ok (.aload_n 0, 1) := by decide +kernel
theorem dX9_goMinute_58 : decode cX9_goMinute 58 = .ok (.getfield 34, 3) := by decide +kernel
theorem dX9_goMinute_61 : decode cX9_goMinute 61 = .ok (.iload_n 1, 1) := by decide +kernel
theorem dX9_goMinute_62 : decode cX9_goMinute 62 = .ok (.iaload, 1) := by decide +kernel
theorem dX9_goMinute_63 : decode cX9_goMinute 63 = .ok (.imul, 1) := by decide +kernel
theorem dX9_goMinute_64 : decode cX9_goMinute 64 = .ok (.iload 4, 2) := by decide +kernel
theorem dX9_goMinute_66 : decode cX9_goMinute 66 = .ok (.iadd, 1) := by decide +kernel
theorem dX9_goMinute_67 : decode cX9_goMinute 67 = .ok (.bipush 40, 2) := by decide +kernel
theorem dX9_goMinute_69 : decode cX9_goMinute 69 = .ok (.aload_n 0, 1) := by decide +kernel
theorem dX9_goMinute_70 : decode cX9_goMinute 70 = .ok (.getfield 40, 3) := by decide +kernel
theorem dX9_goMinute_73 : decode cX9_goMinute 73 = .ok (.iload_n 3, 1) := by decide +kernel
theorem dX9_goMinute_74 : decode cX9_goMinute 74 = .ok (.iaload, 1) := by decide +kernel
theorem dX9_goMinute_75 : decode cX9_goMinute 75 = .ok (.iload_n 1, 1) := by decide +kernel
theorem dX9_goMinute_76 : decode cX9_goMinute 76 = .ok (.invokestatic 254, 3) := by decide +kernel
theorem dX9_goMinute_79 : decode cX9_goMinute 79 = .ok (.imul, 1) := by decide +kernel
theorem dX9_goMinute_80 : decode cX9_goMinute 80 = .ok (.iadd, 1) := by decide +kernel
theorem dX9_goMinute_81 : decode cX9_goMinute 81 = .ok (.istore 5, 2) := by decide +kernel
theorem dX9_goMinute_83 : decode cX9_goMinute 83 = .ok (.iload_n 1, 1) := by decide +kernel
theorem dX9_goMinute_84 : decode cX9_goMinute 84 = .ok (.ifCond .ne 7, 3) := by decide +kernel
theorem dX9_goMinute_87 : decode cX9_goMinute 87 = .ok (.iconst 0, 1) := by decide +kernel
theorem dX9_goMinute_88 : decode cX9_goMinute 88 = .ok (.goto 16, 3) := by decide +kernel
theorem dX9_goMinute_91 : decode cX9_goMinute 91 = .ok (.aload_n 0, 1) := by decide +kernel
theorem dX9_goMinute_92 : decode cX9_goMinute 92 = .ok (.getfield 49, 3) := by decide +kernel
theorem dX9_goMinute_95 : decode cX9_goMinute 95 = .ok (.bipush 6, 2) := by decide +kernel
theorem dX9_goMinute_97 : decode cX9_goMinute 97 = .ok (.iload_n 1, 1) := by decide +kernel
theorem dX9_goMinute_98 : decode cX9_goMinute 98 = .ok (.iconst 1, 1) := by decide +kernel
theorem dX9_goMinute_99 : decode cX9_goMinute 99 = .ok (.isub, 1) := by decide +kernel
theorem dX9_goMinute_100 : decode cX9_goMinute 100 = .ok (.imul, 1) := by decide +kernel
theorem dX9_goMinute_101 : decode cX9_goMinute 101 = .ok (.iload_n 3, 1) := by decide +kernel
theorem dX9_goMinute_102 : decode cX9_goMinute 102 = .ok (.iadd, 1) := by decide +kernel
theorem dX9_goMinute_103 : decode cX9_goMinute 103 = .ok (.iaload, 1) := by decide +kernel
theorem dX9_goMinute_104 : decode cX9_goMinute 104 = .ok (.iload 5, 2) := by decide +kernel
theorem dX9_goMinute_106 : decode cX9_goMinute 106 = .ok (.iadd, 1) := by decide +kernel
theorem dX9_goMinute_107 : decode cX9_goMinute 107 = .ok (.istore 6, 2) := by decide +kernel
theorem dX9_goMinute_109 : decode cX9_goMinute 109 = .ok (.iload 6, 2) := by decide +kernel
theorem dX9_goMinute_111 : decode cX9_goMinute 111 = .ok (.aload_n 0, 1) := by decide +kernel
theorem dX9_goMinute_112 : decode cX9_goMinute 112 = .ok (.getfield 9, 3) := by decide +kernel
theorem dX9_goMinute_115 : decode cX9_goMinute 115 = .ok (.bipush 11, 2) := by decide +kernel
theorem dX9_goMinute_117 : decode cX9_goMinute 117 = .ok (.iconst 2, 1) := by decide +kernel
theorem dX9_goMinute_118 : decode cX9_goMinute 118 = .ok (.iload_n 3, 1) := by decide +kernel
theorem dX9_goMinute_119 : decode cX9_goMinute 119 = .ok (.imul, 1) := by decide +kernel
theorem dX9_goMinute_120 : decode cX9_goMinute 120 = .ok (.iadd, 1) := by decide +kernel
theorem dX9_goMinute_121 : decode cX9_goMinute 121 = .ok (.iconst 1, 1) := by decide +kernel
theorem dX9_goMinute_122 : decode cX9_goMinute 122 = .ok (.iadd, 1) := by decide +kernel
theorem dX9_goMinute_123 : decode cX9_goMinute 123 = .ok (.iaload, 1) := by decide +kernel
theorem dX9_goMinute_124 : decode cX9_goMinute 124 = .ok (.if_icmp .lt 20, 3) := by decide +kernel
theorem dX9_goMinute_127 : decode cX9_goMinute 127 = .ok (.aload_n 0, 1) := by decide +kernel
theorem dX9_goMinute_128 : decode cX9_goMinute 128 = .ok (.getfield 37, 3) := by decide +kernel
theorem dX9_goMinute_131 : decode cX9_goMinute 131 = .ok (.iload_n 3, 1) := by decide +kernel
theorem dX9_goMinute_132 : decode cX9_goMinute 132 = .ok (.iaload, 1) := by decide +kernel
theorem dX9_goMinute_133 : decode cX9_goMinute 133 = .ok (.iload_n 1, 1) := by decide +kernel
theorem dX9_goMinute_134 : decode cX9_goMinute 134 = .ok (.invokestatic 254, 3) := by decide +kernel
theorem dX9_goMinute_137 : decode cX9_goMinute 137 = .ok (.ifCond .ne 7, 3) := by decide +kernel
theorem dX9_goMinute_140 : decode cX9_goMinute 140 = .ok (.iconst 1, 1) := by decide +kernel
theorem dX9_goMinute_141 : decode cX9_goMinute 141 = .ok (.goto 4, 3) := by decide +kernel
theorem dX9_goMinute_144 : decode cX9_goMinute 144 = .ok (.iconst 0, 1) := by decide +kernel
theorem dX9_goMinute_145 : decode cX9_goMinute 145 = .ok (.istore 7, 2) := by decide +kernel
theorem dX9_goMinute_147 : decode cX9_goMinute 147 = .ok (.aload_n 0, 1) := by decide +kernel
theorem dX9_goMinute_148 : decode cX9_goMinute 148 = .ok (.getfield 55, 3) := by decide +kernel
theorem dX9_goMinute_151 : decode cX9_goMinute 151 = .ok (.iload_n 3, 1) := by decide +kernel
theorem dX9_goMinute_152 : decode cX9_goMinute 152 = .ok (.dup2, 1) := by decide +kernel
theorem dX9_goMinute_153 : decode cX9_goMinute 153 = .ok (.iaload, 1) := by decide +kernel
theorem dX9_goMinute_154 : decode cX9_goMinute 154 = .ok (.iload 4, 2) := by decide +kernel
theorem dX9_goMinute_156 : decode cX9_goMinute 156 = .ok (.iadd, 1) := by decide +kernel
theorem dX9_goMinute_157 : decode cX9_goMinute 157 = .ok (.iastore, 1) := by decide +kernel
theorem dX9_goMinute_158 : decode cX9_goMinute 158 = .ok (.aload_n 0, 1) := by decide +kernel
theorem dX9_goMinute_159 : decode cX9_goMinute 159 = .ok (.getfield 52, 3) := by decide +kernel
theorem dX9_goMinute_162 : decode cX9_goMinute 162 = .ok (.bipush 6, 2) := by decide +kernel
theorem dX9_goMinute_164 : decode cX9_goMinute 164 = .ok (.iload_n 1, 1) := by decide +kernel
theorem dX9_goMinute_165 : decode cX9_goMinute 165 = .ok (.imul, 1) := by decide +kernel
theorem dX9_goMinute_166 : decode cX9_goMinute 166 = .ok (.iload_n 3, 1) := by decide +kernel
theorem dX9_goMinute_167 : decode cX9_goMinute 167 = .ok (.iadd, 1) := by decide +kernel
theorem dX9_goMinute_168 : decode cX9_goMinute 168 = .ok (.iload 5, 2) := by decide +kernel
theorem dX9_goMinute_170 : decode cX9_goMinute 170 = .ok (.iastore, 1) := by decide +kernel
theorem dX9_goMinute_171 : decode cX9_goMinute 171 = .ok (.aload_n 0, 1) := by decide +kernel
theorem dX9_goMinute_172 : decode cX9_goMinute 172 = .ok (.getfield 49, 3) := by decide +kernel
theorem dX9_goMinute_175 : decode cX9_goMinute 175 = .ok (.bipush 6, 2) := by decide +kernel
theorem dX9_goMinute_177 : decode cX9_goMinute 177 = .ok (.iload_n 1, 1) := by decide +kernel
theorem dX9_goMinute_178 : decode cX9_goMinute 178 = .ok (.imul, 1) := by decide +kernel
theorem dX9_goMinute_179 : decode cX9_goMinute 179 = .ok (.iload_n 3, 1) := by decide +kernel
theorem dX9_goMinute_180 : decode cX9_goMinute 180 = .ok (.iadd, 1) := by decide +kernel
theorem dX9_goMinute_181 : decode cX9_goMinute 181 = .ok (.iload 7, 2) := by decide +kernel
theorem dX9_goMinute_183 : decode cX9_goMinute 183 = .ok (.ifCond .eq 7, 3) := by decide +kernel
theorem dX9_goMinute_186 : decode cX9_goMinute 186 = .ok (.iconst 0, 1) := by decide +kernel
theorem dX9_goMinute_187 : decode cX9_goMinute 187 = .ok (.goto 5, 3) := by decide +kernel
theorem dX9_goMinute_190 : decode cX9_goMinute 190 = .ok (.iload 6, 2) := by decide +kernel
theorem dX9_goMinute_192 : decode cX9_goMinute 192 = .ok (.iastore, 1) := by decide +kernel
theorem dX9_goMinute_193 : decode cX9_goMinute 193 = .ok (.iload 7, 2) := by decide +kernel
theorem dX9_goMinute_195 : decode cX9_goMinute 195 = .ok (.ifCond .ne 6, 3) := by decide +kernel
theorem dX9_goMinute_198 : decode cX9_goMinute 198 = .ok (.goto 27, 3) := by decide +kernel
theorem dX9_goMinute_201 : decode cX9_goMinute 201 = .ok (.aload_n 0, 1) := by decide +kernel
theorem dX9_goMinute_202 : decode cX9_goMinute 202 = .ok (.getfield 46, 3) := by decide +kernel
theorem dX9_goMinute_205 : decode cX9_goMinute 205 = .ok (.iload_n 1, 1) := by decide +kernel
theorem dX9_goMinute_206 : decode cX9_goMinute 206 = .ok (.dup2, 1) := by decide +kernel
theorem dX9_goMinute_207 : decode cX9_goMinute 207 = .ok (.iaload, 1) := by decide +kernel
theorem dX9_goMinute_208 : decode cX9_goMinute 208 = .ok (.iconst 1, 1) := by decide +kernel
theorem dX9_goMinute_209 : decode cX9_goMinute 209 = .ok (.iload_n 3, 1) := by decide +kernel
theorem dX9_goMinute_210 : decode cX9_goMinute 210 = .ok (.ishl, 1) := by decide +kernel
theorem dX9_goMinute_211 : decode cX9_goMinute 211 = .ok (.ior, 1) := by decide +kernel
theorem dX9_goMinute_212 : decode cX9_goMinute 212 = .ok (.iastore, 1) := by decide +kernel
theorem dX9_goMinute_213 : decode cX9_goMinute 213 = .ok (.aload_n 0, 1) := by decide +kernel
theorem dX9_goMinute_214 : decode cX9_goMinute 214 = .ok (.getfield 43, 3) := by decide +kernel
theorem dX9_goMinute_217 : decode cX9_goMinute 217 = .ok (.iload_n 3, 1) := by decide +kernel
theorem dX9_goMinute_218 : decode cX9_goMinute 218 = .ok (.dup2, 1) := by decide +kernel
theorem dX9_goMinute_219 : decode cX9_goMinute 219 = .ok (.iaload, 1) := by decide +kernel
theorem dX9_goMinute_220 : decode cX9_goMinute 220 = .ok (.iconst 1, 1) := by decide +kernel
theorem dX9_goMinute_221 : decode cX9_goMinute 221 = .ok (.iload_n 1, 1) := by decide +kernel
theorem dX9_goMinute_222 : decode cX9_goMinute 222 = .ok (.ishl, 1) := by decide +kernel
theorem dX9_goMinute_223 : decode cX9_goMinute 223 = .ok (.ior, 1) := by decide +kernel
theorem dX9_goMinute_224 : decode cX9_goMinute 224 = .ok (.iastore, 1) := by decide +kernel
theorem dX9_goMinute_225 : decode cX9_goMinute 225 = .ok (.iinc 3 1, 3) := by decide +kernel
theorem dX9_goMinute_228 : decode cX9_goMinute 228 = .ok (.goto (-202), 3) := by decide +kernel
theorem dX9_goMinute_231 : decode cX9_goMinute 231 = .ok (.return_, 1) := by decide +kernel
theorem dX9_goAll_0 : decode cX9_goAll 0 = .ok (.iconst 0, 1) := by decide +kernel
theorem dX9_goAll_1 : decode cX9_goAll 1 = .ok (.istore_n 1, 1) := by decide +kernel
theorem dX9_goAll_2 : decode cX9_goAll 2 = .ok (.iload_n 1, 1) := by decide +kernel
theorem dX9_goAll_3 : decode cX9_goAll 3 = .ok (.bipush 6, 2) := by decide +kernel
theorem dX9_goAll_5 : decode cX9_goAll 5 = .ok (.if_icmp .ge 23, 3) := by decide +kernel
theorem dX9_goAll_8 : decode cX9_goAll 8 = .ok (.aload_n 0, 1) := by decide +kernel
theorem dX9_goAll_9 : decode cX9_goAll 9 = .ok (.getfield 43, 3) := by decide +kernel
theorem dX9_goAll_12 : decode cX9_goAll 12 = .ok (.iload_n 1, 1) := by decide +kernel
theorem dX9_goAll_13 : decode cX9_goAll 13 = .ok (.iconst 0, 1) := by decide +kernel
theorem dX9_goAll_14 : decode cX9_goAll 14 = .ok (.iastore, 1) := by decide +kernel
theorem dX9_goAll_15 : decode cX9_goAll 15 = .ok (.aload_n 0, 1) := by decide +kernel
theorem dX9_goAll_16 : decode cX9_goAll 16 = .ok (.getfield 55, 3) := by decide +kernel
theorem dX9_goAll_19 : decode cX9_goAll 19 = .ok (.iload_n 1, 1) := by decide +kernel
theorem dX9_goAll_20 : decode cX9_goAll 20 = .ok (.iconst 0, 1) := by decide +kernel
theorem dX9_goAll_21 : decode cX9_goAll 21 = .ok (.iastore, 1) := by decide +kernel
theorem dX9_goAll_22 : decode cX9_goAll 22 = .ok (.iinc 1 1, 3) := by decide +kernel
theorem dX9_goAll_25 : decode cX9_goAll 25 = .ok (.goto (-23), 3) := by decide +kernel
theorem dX9_goAll_28 : decode cX9_goAll 28 = .ok (.iconst 0, 1) := by decide +kernel
theorem dX9_goAll_29 : decode cX9_goAll 29 = .ok (.istore_n 1, 1) := by decide +kernel
theorem dX9_goAll_30 : decode cX9_goAll 30 = .ok (.iload_n 1, 1) := by decide +kernel
theorem dX9_goAll_31 : decode cX9_goAll 31 = .ok (.aload_n 0, 1) := by decide +kernel
theorem dX9_goAll_32 : decode cX9_goAll 32 = .ok (.getfield 251, 3) := by decide +kernel
theorem dX9_goAll_35 : decode cX9_goAll 35 = .ok (.if_icmp .gt 14, 3) := by decide +kernel
theorem dX9_goAll_38 : decode cX9_goAll 38 = .ok (.aload_n 0, 1) := by decide +kernel
theorem dX9_goAll_39 : decode cX9_goAll 39 = .ok (.iload_n 1, 1) := by decide +kernel
theorem dX9_goAll_40 : decode cX9_goAll 40 = .ok (.invokevirtual 260, 3) := by decide +kernel
theorem dX9_goAll_43 : decode cX9_goAll 43 = .ok (.iinc 1 1, 3) := by decide +kernel
theorem dX9_goAll_46 : decode cX9_goAll 46 = .ok (.goto (-16), 3) := by decide +kernel
theorem dX9_goAll_49 : decode cX9_goAll 49 = .ok (.return_, 1) := by decide +kernel
theorem dX9_asksHouse_0 : decode cX9_asksHouse 0 = .ok (.aload_n 0, 1) := by decide +kernel
theorem dX9_asksHouse_1 : decode cX9_asksHouse 1 = .ok (.invokevirtual 263, 3) := by decide +kernel
theorem dX9_asksHouse_4 : decode cX9_asksHouse 4 = .ok (.aload_n 0, 1) := by decide +kernel
theorem dX9_asksHouse_5 : decode cX9_asksHouse 5 = .ok (.invokevirtual 266, 3) := by decide +kernel
theorem dX9_asksHouse_8 : decode cX9_asksHouse 8 = .ok (.aload_n 0, 1) := by decide +kernel
theorem dX9_asksHouse_9 : decode cX9_asksHouse 9 = .ok (.invokevirtual 269, 3) := by decide +kernel
theorem dX9_asksHouse_12 : decode cX9_asksHouse 12 = .ok (.ireturn, 1) := by decide +kernel
theorem dX9_asksPerson_0 : decode cX9_asksPerson 0 = .ok (.aload_n 0, 1) := by decide +kernel
theorem dX9_asksPerson_1 : decode cX9_asksPerson 1 = .ok (.invokevirtual 272, 3) := by decide +kernel
theorem dX9_asksPerson_4 : decode cX9_asksPerson 4 = .ok (.pop, 1) := by decide +kernel
theorem dX9_asksPerson_5 : decode cX9_asksPerson 5 = .ok (.aload_n 0, 1) := by decide +kernel
theorem dX9_asksPerson_6 : decode cX9_asksPerson 6 = .ok (.iload_n 1, 1) := by decide +kernel
theorem dX9_asksPerson_7 : decode cX9_asksPerson 7 = .ok (.i2l, 1) := by decide +kernel
theorem dX9_asksPerson_8 : decode cX9_asksPerson 8 = .ok (.invokevirtual 224, 3) := by decide +kernel
theorem dX9_asksPerson_11 : decode cX9_asksPerson 11 = .ok (.ireturn, 1) := by decide +kernel
theorem dX9_asksMinute_0 : decode cX9_asksMinute 0 = .ok (.aload_n 0, 1) := by decide +kernel
theorem dX9_asksMinute_1 : decode cX9_asksMinute 1 = .ok (.invokevirtual 272, 3) := by decide +kernel
theorem dX9_asksMinute_4 : decode cX9_asksMinute 4 = .ok (.pop, 1) := by decide +kernel
theorem dX9_asksMinute_5 : decode cX9_asksMinute 5 = .ok (.aload_n 0, 1) := by decide +kernel
theorem dX9_asksMinute_6 : decode cX9_asksMinute 6 = .ok (.iload_n 1, 1) := by decide +kernel
theorem dX9_asksMinute_7 : decode cX9_asksMinute 7 = .ok (.i2l, 1) := by decide +kernel
theorem dX9_asksMinute_8 : decode cX9_asksMinute 8 = .ok (.invokevirtual 275, 3) := by decide +kernel
theorem dX9_asksMinute_11 : decode cX9_asksMinute 11 = .ok (.ireturn, 1) := by decide +kernel
theorem dX9_firstOf_0 : decode cX9_firstOf 0 = .ok (.iconst 0, 1) := by decide +kernel
theorem dX9_firstOf_1 : decode cX9_firstOf 1 = .ok (.istore_n 1, 1) := by decide +kernel
theorem dX9_firstOf_2 : decode cX9_firstOf 2 = .ok (.iload_n 1, 1) := by decide +kernel
theorem dX9_firstOf_3 : decode cX9_firstOf 3 = .ok (.bipush 30, 2) := by decide +kernel
theorem dX9_firstOf_5 : decode cX9_firstOf 5 = .ok (.if_icmp .ge 20, 3) := by decide +kernel
theorem dX9_firstOf_8 : decode cX9_firstOf 8 = .ok (.iload_n 0, 1) := by decide +kernel
theorem dX9_firstOf_9 : decode cX9_firstOf 9 = .ok (.iload_n 1, 1) := by decide +kernel
theorem dX9_firstOf_10 : decode cX9_firstOf 10 = .ok (.invokestatic 254, 3) := by decide +kernel
theorem dX9_firstOf_13 : decode cX9_firstOf 13 = .ok (.iconst 1, 1) := by decide +kernel
theorem dX9_firstOf_14 : decode cX9_firstOf 14 = .ok (.if_icmp .ne 5, 3) := by decide +kernel
theorem dX9_firstOf_17 : decode cX9_firstOf 17 = .ok (.iload_n 1, 1) := by decide +kernel
theorem dX9_firstOf_18 : decode cX9_firstOf 18 = .ok (.ireturn, 1) := by decide +kernel
theorem dX9_firstOf_19 : decode cX9_firstOf 19 = .ok (.iinc 1 1, 3) := by decide +kernel
theorem dX9_firstOf_22 : decode cX9_firstOf 22 = .ok (.goto (-20), 3) := by decide +kernel
theorem dX9_firstOf_25 : decode cX9_firstOf 25 = .ok (.iconst (-1), 1) := by decide +kernel
theorem dX9_firstOf_26 : decode cX9_firstOf 26 = .ok (.ireturn, 1) := by decide +kernel
theorem dX9_allSneezes_0 : decode cX9_allSneezes 0 = .ok (.iconst 0, 1) := by decide +kernel
theorem dX9_allSneezes_1 : decode cX9_allSneezes 1 = .ok (.istore_n 1, 1) := by decide +kernel
theorem dX9_allSneezes_2 : decode cX9_allSneezes 2 = .ok (.iconst 0, 1) := by decide +kernel
theorem dX9_allSneezes_3 : decode cX9_allSneezes 3 = .ok (.istore_n 2, 1) := by decide +kernel
theorem dX9_allSneezes_4 : decode cX9_allSneezes 4 = .ok (.iload_n 2, 1) := by decide +kernel
theorem dX9_allSneezes_5 : decode cX9_allSneezes 5 = .ok (.aload_n 0, 1) := by decide +kernel
theorem dX9_allSneezes_6 : decode cX9_allSneezes 6 = .ok (.getfield 9, 3) := by decide +kernel
theorem dX9_allSneezes_9 : decode cX9_allSneezes 9 = .ok (.iconst 5, 1) := by decide +kernel
theorem dX9_allSneezes_10 : decode cX9_allSneezes 10 = .ok (.iaload, 1) := by decide +kernel
theorem dX9_allSneezes_11 : decode cX9_allSneezes 11 = .ok (.if_icmp .ge 21, 3) := by decide +kernel
theorem dX9_allSneezes_14 : decode cX9_allSneezes 14 = .ok (.iload_n 1, 1) := by decide +kernel
theorem dX9_allSneezes_15 : decode cX9_allSneezes 15 = .ok (.aload_n 0, 1) := by decide +kernel
theorem dX9_allSneezes_16 : decode cX9_allSneezes 16 = .ok (.getfield 43, 3) := by decide +kernel
theorem dX9_allSneezes_19 : decode cX9_allSneezes 19 = .ok (.iload_n 2, 1) := by decide +kernel
theorem dX9_allSneezes_20 : decode cX9_allSneezes 20 = .ok (.iaload, 1) := by decide +kernel
theorem dX9_allSneezes_21 : decode cX9_allSneezes 21 = .ok (.invokestatic 278, 3) := by decide +kernel
theorem dX9_allSneezes_24 : decode cX9_allSneezes 24 = .ok (.iadd, 1) := by decide +kernel
theorem dX9_allSneezes_25 : decode cX9_allSneezes 25 = .ok (.istore_n 1, 1) := by decide +kernel
theorem dX9_allSneezes_26 : decode cX9_allSneezes 26 = .ok (.iinc 2 1, 3) := by decide +kernel
theorem dX9_allSneezes_29 : decode cX9_allSneezes 29 = .ok (.goto (-25), 3) := by decide +kernel
theorem dX9_allSneezes_32 : decode cX9_allSneezes 32 = .ok (.iload_n 1, 1) := by decide +kernel
theorem dX9_allSneezes_33 : decode cX9_allSneezes 33 = .ok (.ireturn, 1) := by decide +kernel
theorem dX9_beside_0 : decode cX9_beside 0 = .ok (.aload_n 0, 1) := by decide +kernel
theorem dX9_beside_1 : decode cX9_beside 1 = .ok (.invokevirtual 263, 3) := by decide +kernel
theorem dX9_beside_4 : decode cX9_beside 4 = .ok (.aload_n 0, 1) := by decide +kernel
theorem dX9_beside_5 : decode cX9_beside 5 = .ok (.iload_n 1, 1) := by decide +kernel
theorem dX9_beside_6 : decode cX9_beside 6 = .ok (.i2l, 1) := by decide +kernel
theorem dX9_beside_7 : decode cX9_beside 7 = .ok (.invokevirtual 224, 3) := by decide +kernel
theorem dX9_beside_10 : decode cX9_beside 10 = .ok (.ifCond .ne 6, 3) := by decide +kernel
theorem dX9_beside_13 : decode cX9_beside 13 = .ok (.bipush (-2), 2) := by decide +kernel
theorem dX9_beside_15 : decode cX9_beside 15 = .ok (.ireturn, 1) := by decide +kernel
theorem dX9_beside_16 : decode cX9_beside 16 = .ok (.iconst 0, 1) := by decide +kernel
theorem dX9_beside_17 : decode cX9_beside 17 = .ok (.istore_n 2, 1) := by decide +kernel
theorem dX9_beside_18 : decode cX9_beside 18 = .ok (.iconst 0, 1) := by decide +kernel
theorem dX9_beside_19 : decode cX9_beside 19 = .ok (.istore_n 3, 1) := by decide +kernel
theorem dX9_beside_20 : decode cX9_beside 20 = .ok (.iload_n 3, 1) := by decide +kernel
theorem dX9_beside_21 : decode cX9_beside 21 = .ok (.aload_n 0, 1) := by decide +kernel
theorem dX9_beside_22 : decode cX9_beside 22 = .ok (.getfield 9, 3) := by decide +kernel
theorem dX9_beside_25 : decode cX9_beside 25 = .ok (.iconst 5, 1) := by decide +kernel
theorem dX9_beside_26 : decode cX9_beside 26 = .ok (.iaload, 1) := by decide +kernel
theorem dX9_beside_27 : decode cX9_beside 27 = .ok (.if_icmp .ge 30, 3) := by decide +kernel
theorem dX9_beside_30 : decode cX9_beside 30 = .ok (.iload_n 2, 1) := by decide +kernel
theorem dX9_beside_31 : decode cX9_beside 31 = .ok (.aload_n 0, 1) := by decide +kernel
theorem dX9_beside_32 : decode cX9_beside 32 = .ok (.iload_n 1, 1) := by decide +kernel
theorem dX9_beside_33 : decode cX9_beside 33 = .ok (.iconst 1, 1) := by decide +kernel
theorem dX9_beside_34 : decode cX9_beside 34 = .ok (.iload_n 3, 1) := by decide +kernel
theorem dX9_beside_35 : decode cX9_beside 35 = .ok (.ishl, 1) := by decide +kernel
theorem dX9_beside_36 : decode cX9_beside 36 = .ok (.invokevirtual 257, 3) := by decide +kernel
theorem dX9_beside_39 : decode cX9_beside 39 = .ok (.ifCond .le 9, 3) := by decide +kernel
theorem dX9_beside_42 : decode cX9_beside 42 = .ok (.iconst 1, 1) := by decide +kernel
theorem dX9_beside_43 : decode cX9_beside 43 = .ok (.iload_n 3, 1) := by decide +kernel
theorem dX9_beside_44 : decode cX9_beside 44 = .ok (.ishl, 1) := by decide +kernel
theorem dX9_beside_45 : decode cX9_beside 45 = .ok (.goto 4, 3) := by decide +kernel
theorem dX9_beside_48 : decode cX9_beside 48 = .ok (.iconst 0, 1) := by decide +kernel
theorem dX9_beside_49 : decode cX9_beside 49 = .ok (.ior, 1) := by decide +kernel
theorem dX9_beside_50 : decode cX9_beside 50 = .ok (.istore_n 2, 1) := by decide +kernel
theorem dX9_beside_51 : decode cX9_beside 51 = .ok (.iinc 3 1, 3) := by decide +kernel
theorem dX9_beside_54 : decode cX9_beside 54 = .ok (.goto (-34), 3) := by decide +kernel
theorem dX9_beside_57 : decode cX9_beside 57 = .ok (.iload_n 2, 1) := by decide +kernel
theorem dX9_beside_58 : decode cX9_beside 58 = .ok (.ireturn, 1) := by decide +kernel
theorem dX9_dust_0 : decode cX9_dust 0 = .ok (.aload_n 0, 1) := by decide +kernel
theorem dX9_dust_1 : decode cX9_dust 1 = .ok (.iload_n 1, 1) := by decide +kernel
theorem dX9_dust_2 : decode cX9_dust 2 = .ok (.invokevirtual 281, 3) := by decide +kernel
theorem dX9_dust_5 : decode cX9_dust 5 = .ok (.ifCond .eq 12, 3) := by decide +kernel
theorem dX9_dust_8 : decode cX9_dust 8 = .ok (.aload_n 0, 1) := by decide +kernel
theorem dX9_dust_9 : decode cX9_dust 9 = .ok (.getfield 34, 3) := by decide +kernel
theorem dX9_dust_12 : decode cX9_dust 12 = .ok (.iload_n 1, 1) := by decide +kernel
theorem dX9_dust_13 : decode cX9_dust 13 = .ok (.iaload, 1) := by decide +kernel
theorem dX9_dust_14 : decode cX9_dust 14 = .ok (.goto 5, 3) := by decide +kernel
theorem dX9_dust_17 : decode cX9_dust 17 = .ok (.bipush (-2), 2) := by decide +kernel
theorem dX9_dust_19 : decode cX9_dust 19 = .ok (.ireturn, 1) := by decide +kernel
theorem dX9_sneezes_0 : decode cX9_sneezes 0 = .ok (.aload_n 0, 1) := by decide +kernel
theorem dX9_sneezes_1 : decode cX9_sneezes 1 = .ok (.iload_n 1, 1) := by decide +kernel
theorem dX9_sneezes_2 : decode cX9_sneezes 2 = .ok (.invokevirtual 284, 3) := by decide +kernel
theorem dX9_sneezes_5 : decode cX9_sneezes 5 = .ok (.ifCond .eq 12, 3) := by decide +kernel
theorem dX9_sneezes_8 : decode cX9_sneezes 8 = .ok (.aload_n 0, 1) := by decide +kernel
theorem dX9_sneezes_9 : decode cX9_sneezes 9 = .ok (.getfield 43, 3) := by decide +kernel
theorem dX9_sneezes_12 : decode cX9_sneezes 12 = .ok (.iload_n 1, 1) := by decide +kernel
theorem dX9_sneezes_13 : decode cX9_sneezes 13 = .ok (.iaload, 1) := by decide +kernel
theorem dX9_sneezes_14 : decode cX9_sneezes 14 = .ok (.goto 5, 3) := by decide +kernel
theorem dX9_sneezes_17 : decode cX9_sneezes 17 = .ok (.bipush (-2), 2) := by decide +kernel
theorem dX9_sneezes_19 : decode cX9_sneezes 19 = .ok (.ireturn, 1) := by decide +kernel
theorem dX9_first_0 : decode cX9_first 0 = .ok (.aload_n 0, 1) := by decide +kernel
theorem dX9_first_1 : decode cX9_first 1 = .ok (.iload_n 1, 1) := by decide +kernel
theorem dX9_first_2 : decode cX9_first 2 = .ok (.invokevirtual 284, 3) := by decide +kernel
theorem dX9_first_5 : decode cX9_first 5 = .ok (.ifCond .eq 15, 3) := by decide +kernel
theorem dX9_first_8 : decode cX9_first 8 = .ok (.aload_n 0, 1) := by decide +kernel
theorem dX9_first_9 : decode cX9_first 9 = .ok (.getfield 43, 3) := by decide +kernel
theorem dX9_first_12 : decode cX9_first 12 = .ok (.iload_n 1, 1) := by decide +kernel
theorem dX9_first_13 : decode cX9_first 13 = .ok (.iaload, 1) := by decide +kernel
theorem dX9_first_14 : decode cX9_first 14 = .ok (.invokestatic 287, 3) := by decide +kernel
theorem dX9_first_17 : decode cX9_first 17 = .ok (.goto 5, 3) := by decide +kernel
theorem dX9_first_20 : decode cX9_first 20 = .ok (.bipush (-2), 2) := by decide +kernel
theorem dX9_first_22 : decode cX9_first 22 = .ok (.ireturn, 1) := by decide +kernel
theorem dX9_all_0 : decode cX9_all 0 = .ok (.aload_n 0, 1) := by decide +kernel
theorem dX9_all_1 : decode cX9_all 1 = .ok (.invokevirtual 272, 3) := by decide +kernel
theorem dX9_all_4 : decode cX9_all 4 = .ok (.ifCond .eq 10, 3) := by decide +kernel
theorem dX9_all_7 : decode cX9_all 7 = .ok (.aload_n 0, 1) := by decide +kernel
theorem dX9_all_8 : decode cX9_all 8 = .ok (.invokevirtual 290, 3) := by decide +kernel
theorem dX9_all_11 : decode cX9_all 11 = .ok (.goto 5, 3) := by decide +kernel
theorem dX9_all_14 : decode cX9_all 14 = .ok (.bipush (-2), 2) := by decide +kernel
theorem dX9_all_16 : decode cX9_all 16 = .ok (.ireturn, 1) := by decide +kernel
theorem dX9_who_0 : decode cX9_who 0 = .ok (.aload_n 0, 1) := by decide +kernel
theorem dX9_who_1 : decode cX9_who 1 = .ok (.iload_n 1, 1) := by decide +kernel
theorem dX9_who_2 : decode cX9_who 2 = .ok (.invokevirtual 281, 3) := by decide +kernel
theorem dX9_who_5 : decode cX9_who 5 = .ok (.ifCond .eq 12, 3) := by decide +kernel
theorem dX9_who_8 : decode cX9_who 8 = .ok (.aload_n 0, 1) := by decide +kernel
theorem dX9_who_9 : decode cX9_who 9 = .ok (.getfield 46, 3) := by decide +kernel
theorem dX9_who_12 : decode cX9_who 12 = .ok (.iload_n 1, 1) := by decide +kernel
theorem dX9_who_13 : decode cX9_who 13 = .ok (.iaload, 1) := by decide +kernel
theorem dX9_who_14 : decode cX9_who 14 = .ok (.goto 5, 3) := by decide +kernel
theorem dX9_who_17 : decode cX9_who 17 = .ok (.bipush (-2), 2) := by decide +kernel
theorem dX9_who_19 : decode cX9_who 19 = .ok (.ireturn, 1) := by decide +kernel
theorem dX9_tickle_0 : decode cX9_tickle 0 = .ok (.aload_n 0, 1) := by decide +kernel
theorem dX9_tickle_1 : decode cX9_tickle 1 = .ok (.iload_n 2, 1) := by decide +kernel
theorem dX9_tickle_2 : decode cX9_tickle 2 = .ok (.invokevirtual 281, 3) := by decide +kernel
theorem dX9_tickle_5 : decode cX9_tickle 5 = .ok (.ifCond .eq 26, 3) := by decide +kernel
theorem dX9_tickle_8 : decode cX9_tickle 8 = .ok (.aload_n 0, 1) := by decide +kernel
theorem dX9_tickle_9 : decode cX9_tickle 9 = .ok (.iload_n 1, 1) := by decide +kernel
theorem dX9_tickle_10 : decode cX9_tickle 10 = .ok (.i2l, 1) := by decide +kernel
theorem dX9_tickle_11 : decode cX9_tickle 11 = .ok (.invokevirtual 224, 3) := by decide +kernel
theorem dX9_tickle_14 : decode cX9_tickle 14 = .ok (.ifCond .eq 17, 3) := by decide +kernel
theorem dX9_tickle_17 : decode cX9_tickle 17 = .ok (.aload_n 0, 1) := by decide +kernel
theorem dX9_tickle_18 : decode cX9_tickle 18 = .ok (.getfield 49, 3) := by decide +kernel
theorem dX9_tickle_21 : decode cX9_tickle 21 = .ok (.bipush 6, 2) := by decide +kernel
theorem dX9_tickle_23 : decode cX9_tickle 23 = .ok (.iload_n 2, 1) := by decide +kernel
theorem dX9_tickle_24 : decode cX9_tickle 24 = .ok (.imul, 1) := by decide +kernel
theorem dX9_tickle_25 : decode cX9_tickle 25 = .ok (.iload_n 1, 1) := by decide +kernel
theorem dX9_tickle_26 : decode cX9_tickle 26 = .ok (.iadd, 1) := by decide +kernel
theorem dX9_tickle_27 : decode cX9_tickle 27 = .ok (.iaload, 1) := by decide +kernel
theorem dX9_tickle_28 : decode cX9_tickle 28 = .ok (.goto 5, 3) := by decide +kernel
theorem dX9_tickle_31 : decode cX9_tickle 31 = .ok (.bipush (-2), 2) := by decide +kernel
theorem dX9_tickle_33 : decode cX9_tickle 33 = .ok (.ireturn, 1) := by decide +kernel
theorem dX9_itch_0 : decode cX9_itch 0 = .ok (.aload_n 0, 1) := by decide +kernel
theorem dX9_itch_1 : decode cX9_itch 1 = .ok (.iload_n 1, 1) := by decide +kernel
theorem dX9_itch_2 : decode cX9_itch 2 = .ok (.invokevirtual 284, 3) := by decide +kernel
theorem dX9_itch_5 : decode cX9_itch 5 = .ok (.ifCond .ne 6, 3) := by decide +kernel
theorem dX9_itch_8 : decode cX9_itch 8 = .ok (.bipush (-2), 2) := by decide +kernel
theorem dX9_itch_10 : decode cX9_itch 10 = .ok (.ireturn, 1) := by decide +kernel
theorem dX9_itch_11 : decode cX9_itch 11 = .ok (.iconst 0, 1) := by decide +kernel
theorem dX9_itch_12 : decode cX9_itch 12 = .ok (.istore_n 2, 1) := by decide +kernel
theorem dX9_itch_13 : decode cX9_itch 13 = .ok (.iconst 0, 1) := by decide +kernel
theorem dX9_itch_14 : decode cX9_itch 14 = .ok (.istore_n 3, 1) := by decide +kernel
theorem dX9_itch_15 : decode cX9_itch 15 = .ok (.iload_n 3, 1) := by decide +kernel
theorem dX9_itch_16 : decode cX9_itch 16 = .ok (.aload_n 0, 1) := by decide +kernel
theorem dX9_itch_17 : decode cX9_itch 17 = .ok (.invokevirtual 249, 3) := by decide +kernel
theorem dX9_itch_20 : decode cX9_itch 20 = .ok (.if_icmp .ge 25, 3) := by decide +kernel
theorem dX9_itch_23 : decode cX9_itch 23 = .ok (.iload_n 2, 1) := by decide +kernel
theorem dX9_itch_24 : decode cX9_itch 24 = .ok (.aload_n 0, 1) := by decide +kernel
theorem dX9_itch_25 : decode cX9_itch 25 = .ok (.getfield 49, 3) := by decide +kernel
theorem dX9_itch_28 : decode cX9_itch 28 = .ok (.bipush 6, 2) := by decide +kernel
theorem dX9_itch_30 : decode cX9_itch 30 = .ok (.iload_n 3, 1) := by decide +kernel
theorem dX9_itch_31 : decode cX9_itch 31 = .ok (.imul, 1) := by decide +kernel
theorem dX9_itch_32 : decode cX9_itch 32 = .ok (.iload_n 1, 1) := by decide +kernel
theorem dX9_itch_33 : decode cX9_itch 33 = .ok (.iadd, 1) := by decide +kernel
theorem dX9_itch_34 : decode cX9_itch 34 = .ok (.iaload, 1) := by decide +kernel
theorem dX9_itch_35 : decode cX9_itch 35 = .ok (.invokestatic 293, 3) := by decide +kernel
theorem dX9_itch_38 : decode cX9_itch 38 = .ok (.istore_n 2, 1) := by decide +kernel
theorem dX9_itch_39 : decode cX9_itch 39 = .ok (.iinc 3 1, 3) := by decide +kernel
theorem dX9_itch_42 : decode cX9_itch 42 = .ok (.goto (-27), 3) := by decide +kernel
theorem dX9_itch_45 : decode cX9_itch 45 = .ok (.iload_n 2, 1) := by decide +kernel
theorem dX9_itch_46 : decode cX9_itch 46 = .ok (.ireturn, 1) := by decide +kernel
theorem dX9_caught_0 : decode cX9_caught 0 = .ok (.aload_n 0, 1) := by decide +kernel
theorem dX9_caught_1 : decode cX9_caught 1 = .ok (.iload_n 1, 1) := by decide +kernel
theorem dX9_caught_2 : decode cX9_caught 2 = .ok (.invokevirtual 284, 3) := by decide +kernel
theorem dX9_caught_5 : decode cX9_caught 5 = .ok (.ifCond .eq 12, 3) := by decide +kernel
theorem dX9_caught_8 : decode cX9_caught 8 = .ok (.aload_n 0, 1) := by decide +kernel
theorem dX9_caught_9 : decode cX9_caught 9 = .ok (.getfield 55, 3) := by decide +kernel
theorem dX9_caught_12 : decode cX9_caught 12 = .ok (.iload_n 1, 1) := by decide +kernel
theorem dX9_caught_13 : decode cX9_caught 13 = .ok (.iaload, 1) := by decide +kernel
theorem dX9_caught_14 : decode cX9_caught 14 = .ok (.goto 5, 3) := by decide +kernel
theorem dX9_caught_17 : decode cX9_caught 17 = .ok (.bipush (-2), 2) := by decide +kernel
theorem dX9_caught_19 : decode cX9_caught 19 = .ok (.ireturn, 1) := by decide +kernel
theorem dX9_gave_0 : decode cX9_gave 0 = .ok (.aload_n 0, 1) := by decide +kernel
theorem dX9_gave_1 : decode cX9_gave 1 = .ok (.iload_n 1, 1) := by decide +kernel
theorem dX9_gave_2 : decode cX9_gave 2 = .ok (.invokevirtual 284, 3) := by decide +kernel
theorem dX9_gave_5 : decode cX9_gave 5 = .ok (.ifCond .ne 6, 3) := by decide +kernel
theorem dX9_gave_8 : decode cX9_gave 8 = .ok (.bipush (-2), 2) := by decide +kernel
theorem dX9_gave_10 : decode cX9_gave 10 = .ok (.ireturn, 1) := by decide +kernel
theorem dX9_gave_11 : decode cX9_gave 11 = .ok (.aload_n 0, 1) := by decide +kernel
theorem dX9_gave_12 : decode cX9_gave 12 = .ok (.getfield 43, 3) := by decide +kernel
theorem dX9_gave_15 : decode cX9_gave 15 = .ok (.iload_n 1, 1) := by decide +kernel
theorem dX9_gave_16 : decode cX9_gave 16 = .ok (.iaload, 1) := by decide +kernel
theorem dX9_gave_17 : decode cX9_gave 17 = .ok (.invokestatic 287, 3) := by decide +kernel
theorem dX9_gave_20 : decode cX9_gave 20 = .ok (.istore_n 2, 1) := by decide +kernel
theorem dX9_gave_21 : decode cX9_gave 21 = .ok (.iconst 0, 1) := by decide +kernel
theorem dX9_gave_22 : decode cX9_gave 22 = .ok (.istore_n 3, 1) := by decide +kernel
theorem dX9_gave_23 : decode cX9_gave 23 = .ok (.iconst 0, 1) := by decide +kernel
theorem dX9_gave_24 : decode cX9_gave 24 = .ok (.istore 4, 2) := by decide +kernel
theorem dX9_gave_26 : decode cX9_gave 26 = .ok (.iload 4, 2) := by decide +kernel
theorem dX9_gave_28 : decode cX9_gave 28 = .ok (.aload_n 0, 1) := by decide +kernel
theorem dX9_gave_29 : decode cX9_gave 29 = .ok (.getfield 9, 3) := by decide +kernel
theorem dX9_gave_32 : decode cX9_gave 32 = .ok (.iconst 5, 1) := by decide +kernel
theorem dX9_gave_33 : decode cX9_gave 33 = .ok (.iaload, 1) := by decide +kernel
theorem dX9_gave_34 : decode cX9_gave 34 = .ok (.if_icmp .ge 53, 3) := by decide +kernel
theorem dX9_gave_37 : decode cX9_gave 37 = .ok (.iload_n 2, 1) := by decide +kernel
theorem dX9_gave_38 : decode cX9_gave 38 = .ok (.ifCond .le 49, 3) := by decide +kernel
theorem dX9_gave_41 : decode cX9_gave 41 = .ok (.iload_n 3, 1) := by decide +kernel
theorem dX9_gave_42 : decode cX9_gave 42 = .ok (.aload_n 0, 1) := by decide +kernel
theorem dX9_gave_43 : decode cX9_gave 43 = .ok (.getfield 46, 3) := by decide +kernel
theorem dX9_gave_46 : decode cX9_gave 46 = .ok (.iload_n 2, 1) := by decide +kernel
theorem dX9_gave_47 : decode cX9_gave 47 = .ok (.iconst 1, 1) := by decide +kernel
theorem dX9_gave_48 : decode cX9_gave 48 = .ok (.isub, 1) := by decide +kernel
theorem dX9_gave_49 : decode cX9_gave 49 = .ok (.iaload, 1) := by decide +kernel
theorem dX9_gave_50 : decode cX9_gave 50 = .ok (.iload 4, 2) := by decide +kernel
theorem dX9_gave_52 : decode cX9_gave 52 = .ok (.invokestatic 254, 3) := by decide +kernel
theorem dX9_gave_55 : decode cX9_gave 55 = .ok (.iconst 1, 1) := by decide +kernel
theorem dX9_gave_56 : decode cX9_gave 56 = .ok (.if_icmp .ne 22, 3) := by decide +kernel
theorem dX9_gave_59 : decode cX9_gave 59 = .ok (.aload_n 0, 1) := by decide +kernel
theorem dX9_gave_60 : decode cX9_gave 60 = .ok (.iload_n 1, 1) := by decide +kernel
theorem dX9_gave_61 : decode cX9_gave 61 = .ok (.iconst 1, 1) := by decide +kernel
theorem dX9_gave_62 : decode cX9_gave 62 = .ok (.iload 4, 2) := by decide +kernel
theorem dX9_gave_64 : decode cX9_gave 64 = .ok (.ishl, 1) := by decide +kernel
theorem dX9_gave_65 : decode cX9_gave 65 = .ok (.invokevirtual 257, 3) := by decide +kernel
theorem dX9_gave_68 : decode cX9_gave 68 = .ok (.ifCond .le 10, 3) := by decide +kernel
theorem dX9_gave_71 : decode cX9_gave 71 = .ok (.iconst 1, 1) := by decide +kernel
theorem dX9_gave_72 : decode cX9_gave 72 = .ok (.iload 4, 2) := by decide +kernel
theorem dX9_gave_74 : decode cX9_gave 74 = .ok (.ishl, 1) := by decide +kernel
theorem dX9_gave_75 : decode cX9_gave 75 = .ok (.goto 4, 3) := by decide +kernel
theorem dX9_gave_78 : decode cX9_gave 78 = .ok (.iconst 0, 1) := by decide +kernel
theorem dX9_gave_79 : decode cX9_gave 79 = .ok (.ior, 1) := by decide +kernel
theorem dX9_gave_80 : decode cX9_gave 80 = .ok (.istore_n 3, 1) := by decide +kernel
theorem dX9_gave_81 : decode cX9_gave 81 = .ok (.iinc 4 1, 3) := by decide +kernel
theorem dX9_gave_84 : decode cX9_gave 84 = .ok (.goto (-58), 3) := by decide +kernel
theorem dX9_gave_87 : decode cX9_gave 87 = .ok (.iload_n 3, 1) := by decide +kernel
theorem dX9_gave_88 : decode cX9_gave 88 = .ok (.ireturn, 1) := by decide +kernel
theorem dX9_worst_0 : decode cX9_worst 0 = .ok (.aload_n 0, 1) := by decide +kernel
theorem dX9_worst_1 : decode cX9_worst 1 = .ok (.invokevirtual 272, 3) := by decide +kernel
theorem dX9_worst_4 : decode cX9_worst 4 = .ok (.ifCond .ne 6, 3) := by decide +kernel
theorem dX9_worst_7 : decode cX9_worst 7 = .ok (.bipush (-2), 2) := by decide +kernel
theorem dX9_worst_9 : decode cX9_worst 9 = .ok (.ireturn, 1) := by decide +kernel
theorem dX9_worst_10 : decode cX9_worst 10 = .ok (.iconst (-1), 1) := by decide +kernel
theorem dX9_worst_11 : decode cX9_worst 11 = .ok (.istore_n 1, 1) := by decide +kernel
theorem dX9_worst_12 : decode cX9_worst 12 = .ok (.iconst 0, 1) := by decide +kernel
theorem dX9_worst_13 : decode cX9_worst 13 = .ok (.istore_n 2, 1) := by decide +kernel
theorem dX9_worst_14 : decode cX9_worst 14 = .ok (.iconst 0, 1) := by decide +kernel
theorem dX9_worst_15 : decode cX9_worst 15 = .ok (.istore_n 3, 1) := by decide +kernel
theorem dX9_worst_16 : decode cX9_worst 16 = .ok (.iload_n 3, 1) := by decide +kernel
theorem dX9_worst_17 : decode cX9_worst 17 = .ok (.aload_n 0, 1) := by decide +kernel
theorem dX9_worst_18 : decode cX9_worst 18 = .ok (.getfield 9, 3) := by decide +kernel
theorem dX9_worst_21 : decode cX9_worst 21 = .ok (.iconst 5, 1) := by decide +kernel
theorem dX9_worst_22 : decode cX9_worst 22 = .ok (.iaload, 1) := by decide +kernel
theorem dX9_worst_23 : decode cX9_worst 23 = .ok (.if_icmp .ge 37, 3) := by decide +kernel
theorem dX9_worst_26 : decode cX9_worst 26 = .ok (.aload_n 0, 1) := by decide +kernel
theorem dX9_worst_27 : decode cX9_worst 27 = .ok (.getfield 43, 3) := by decide +kernel
theorem dX9_worst_30 : decode cX9_worst 30 = .ok (.iload_n 3, 1) := by decide +kernel
theorem dX9_worst_31 : decode cX9_worst 31 = .ok (.iaload, 1) := by decide +kernel
theorem dX9_worst_32 : decode cX9_worst 32 = .ok (.invokestatic 278, 3) := by decide +kernel
theorem dX9_worst_35 : decode cX9_worst 35 = .ok (.iload_n 2, 1) := by decide +kernel
theorem dX9_worst_36 : decode cX9_worst 36 = .ok (.if_icmp .gt 6, 3) := by decide +kernel
theorem dX9_worst_39 : decode cX9_worst 39 = .ok (.goto 15, 3) := by decide +kernel
theorem dX9_worst_42 : decode cX9_worst 42 = .ok (.aload_n 0, 1) := by decide +kernel
theorem dX9_worst_43 : decode cX9_worst 43 = .ok (.getfield 43, 3) := by decide +kernel
theorem dX9_worst_46 : decode cX9_worst 46 = .ok (.iload_n 3, 1) := by decide +kernel
theorem dX9_worst_47 : decode cX9_worst 47 = .ok (.iaload, 1) := by decide +kernel
theorem dX9_worst_48 : decode cX9_worst 48 = .ok (.invokestatic 278, 3) := by decide +kernel
theorem dX9_worst_51 : decode cX9_worst 51 = .ok (.istore_n 2, 1) := by decide +kernel
theorem dX9_worst_52 : decode cX9_worst 52 = .ok (.iload_n 3, 1) := by decide +kernel
theorem dX9_worst_53 : decode cX9_worst 53 = .ok (.istore_n 1, 1) := by decide +kernel
theorem dX9_worst_54 : decode cX9_worst 54 = .ok (.iinc 3 1, 3) := by decide +kernel
theorem dX9_worst_57 : decode cX9_worst 57 = .ok (.goto (-41), 3) := by decide +kernel
theorem dX9_worst_60 : decode cX9_worst 60 = .ok (.iload_n 1, 1) := by decide +kernel
theorem dX9_worst_61 : decode cX9_worst 61 = .ok (.ireturn, 1) := by decide +kernel
theorem dX9_chorus_0 : decode cX9_chorus 0 = .ok (.aload_n 0, 1) := by decide +kernel
theorem dX9_chorus_1 : decode cX9_chorus 1 = .ok (.invokevirtual 272, 3) := by decide +kernel
theorem dX9_chorus_4 : decode cX9_chorus 4 = .ok (.ifCond .ne 6, 3) := by decide +kernel
theorem dX9_chorus_7 : decode cX9_chorus 7 = .ok (.bipush (-2), 2) := by decide +kernel
theorem dX9_chorus_9 : decode cX9_chorus 9 = .ok (.ireturn, 1) := by decide +kernel
theorem dX9_chorus_10 : decode cX9_chorus 10 = .ok (.iconst 0, 1) := by decide +kernel
theorem dX9_chorus_11 : decode cX9_chorus 11 = .ok (.istore_n 1, 1) := by decide +kernel
theorem dX9_chorus_12 : decode cX9_chorus 12 = .ok (.iconst 0, 1) := by decide +kernel
theorem dX9_chorus_13 : decode cX9_chorus 13 = .ok (.istore_n 2, 1) := by decide +kernel
theorem dX9_chorus_14 : decode cX9_chorus 14 = .ok (.iload_n 2, 1) := by decide +kernel
theorem dX9_chorus_15 : decode cX9_chorus 15 = .ok (.aload_n 0, 1) := by decide +kernel
theorem dX9_chorus_16 : decode cX9_chorus 16 = .ok (.invokevirtual 249, 3) := by decide +kernel
theorem dX9_chorus_19 : decode cX9_chorus 19 = .ok (.if_icmp .ge 23, 3) := by decide +kernel
theorem dX9_chorus_22 : decode cX9_chorus 22 = .ok (.iload_n 1, 1) := by decide +kernel
theorem dX9_chorus_23 : decode cX9_chorus 23 = .ok (.aload_n 0, 1) := by decide +kernel
theorem dX9_chorus_24 : decode cX9_chorus 24 = .ok (.getfield 46, 3) := by decide +kernel
theorem dX9_chorus_27 : decode cX9_chorus 27 = .ok (.iload_n 2, 1) := by decide +kernel
theorem dX9_chorus_28 : decode cX9_chorus 28 = .ok (.iaload, 1) := by decide +kernel
theorem dX9_chorus_29 : decode cX9_chorus 29 = .ok (.invokestatic 278, 3) := by decide +kernel
theorem dX9_chorus_32 : decode cX9_chorus 32 = .ok (.invokestatic 293, 3) := by decide +kernel
theorem dX9_chorus_35 : decode cX9_chorus 35 = .ok (.istore_n 1, 1) := by decide +kernel
theorem dX9_chorus_36 : decode cX9_chorus 36 = .ok (.iinc 2 1, 3) := by decide +kernel
theorem dX9_chorus_39 : decode cX9_chorus 39 = .ok (.goto (-25), 3) := by decide +kernel
theorem dX9_chorus_42 : decode cX9_chorus 42 = .ok (.iload_n 1, 1) := by decide +kernel
theorem dX9_chorus_43 : decode cX9_chorus 43 = .ok (.ireturn, 1) := by decide +kernel
theorem dX9_calm_0 : decode cX9_calm 0 = .ok (.aload_n 0, 1) := by decide +kernel
theorem dX9_calm_1 : decode cX9_calm 1 = .ok (.invokevirtual 272, 3) := by decide +kernel
theorem dX9_calm_4 : decode cX9_calm 4 = .ok (.ifCond .ne 6, 3) := by decide +kernel
theorem dX9_calm_7 : decode cX9_calm 7 = .ok (.bipush (-2), 2) := by decide +kernel
theorem dX9_calm_9 : decode cX9_calm 9 = .ok (.ireturn, 1) := by decide +kernel
theorem dX9_calm_10 : decode cX9_calm 10 = .ok (.iconst 0, 1) := by decide +kernel
theorem dX9_calm_11 : decode cX9_calm 11 = .ok (.istore_n 1, 1) := by decide +kernel
theorem dX9_calm_12 : decode cX9_calm 12 = .ok (.iconst 0, 1) := by decide +kernel
theorem dX9_calm_13 : decode cX9_calm 13 = .ok (.istore_n 2, 1) := by decide +kernel
theorem dX9_calm_14 : decode cX9_calm 14 = .ok (.iconst 0, 1) := by decide +kernel
theorem dX9_calm_15 : decode cX9_calm 15 = .ok (.istore_n 3, 1) := by decide +kernel
theorem dX9_calm_16 : decode cX9_calm 16 = .ok (.iload_n 3, 1) := by decide +kernel
theorem dX9_calm_17 : decode cX9_calm 17 = .ok (.aload_n 0, 1) := by decide +kernel
theorem dX9_calm_18 : decode cX9_calm 18 = .ok (.invokevirtual 249, 3) := by decide +kernel
theorem dX9_calm_21 : decode cX9_calm 21 = .ok (.if_icmp .ge 32, 3) := by decide +kernel
theorem dX9_calm_24 : decode cX9_calm 24 = .ok (.aload_n 0, 1) := by decide +kernel
theorem dX9_calm_25 : decode cX9_calm 25 = .ok (.getfield 46, 3) := by decide +kernel
theorem dX9_calm_28 : decode cX9_calm 28 = .ok (.iload_n 3, 1) := by decide +kernel
theorem dX9_calm_29 : decode cX9_calm 29 = .ok (.iaload, 1) := by decide +kernel
theorem dX9_calm_30 : decode cX9_calm 30 = .ok (.ifCond .ne 9, 3) := by decide +kernel
theorem dX9_calm_33 : decode cX9_calm 33 = .ok (.iload_n 2, 1) := by decide +kernel
theorem dX9_calm_34 : decode cX9_calm 34 = .ok (.iconst 1, 1) := by decide +kernel
theorem dX9_calm_35 : decode cX9_calm 35 = .ok (.iadd, 1) := by decide +kernel
theorem dX9_calm_36 : decode cX9_calm 36 = .ok (.goto 4, 3) := by decide +kernel
theorem dX9_calm_39 : decode cX9_calm 39 = .ok (.iconst 0, 1) := by decide +kernel
theorem dX9_calm_40 : decode cX9_calm 40 = .ok (.istore_n 2, 1) := by decide +kernel
theorem dX9_calm_41 : decode cX9_calm 41 = .ok (.iload_n 1, 1) := by decide +kernel
theorem dX9_calm_42 : decode cX9_calm 42 = .ok (.iload_n 2, 1) := by decide +kernel
theorem dX9_calm_43 : decode cX9_calm 43 = .ok (.invokestatic 293, 3) := by decide +kernel
theorem dX9_calm_46 : decode cX9_calm 46 = .ok (.istore_n 1, 1) := by decide +kernel
theorem dX9_calm_47 : decode cX9_calm 47 = .ok (.iinc 3 1, 3) := by decide +kernel
theorem dX9_calm_50 : decode cX9_calm 50 = .ok (.goto (-34), 3) := by decide +kernel
theorem dX9_calm_53 : decode cX9_calm 53 = .ok (.iload_n 1, 1) := by decide +kernel
theorem dX9_calm_54 : decode cX9_calm 54 = .ok (.ireturn, 1) := by decide +kernel
theorem dX9_firstFrom_0 : decode cX9_firstFrom 0 = .ok (.iload_n 1, 1) := by decide +kernel
theorem dX9_firstFrom_1 : decode cX9_firstFrom 1 = .ok (.istore_n 2, 1) := by decide +kernel
theorem dX9_firstFrom_2 : decode cX9_firstFrom 2 = .ok (.iload_n 2, 1) := by decide +kernel
theorem dX9_firstFrom_3 : decode cX9_firstFrom 3 = .ok (.bipush 30, 2) := by decide +kernel
theorem dX9_firstFrom_5 : decode cX9_firstFrom 5 = .ok (.if_icmp .ge 20, 3) := by decide +kernel
theorem dX9_firstFrom_8 : decode cX9_firstFrom 8 = .ok (.iload_n 0, 1) := by decide +kernel
theorem dX9_firstFrom_9 : decode cX9_firstFrom 9 = .ok (.iload_n 2, 1) := by decide +kernel
theorem dX9_firstFrom_10 : decode cX9_firstFrom 10 = .ok (.invokestatic 254, 3) := by decide +kernel
theorem dX9_firstFrom_13 : decode cX9_firstFrom 13 = .ok (.iconst 1, 1) := by decide +kernel
theorem dX9_firstFrom_14 : decode cX9_firstFrom 14 = .ok (.if_icmp .ne 5, 3) := by decide +kernel
theorem dX9_firstFrom_17 : decode cX9_firstFrom 17 = .ok (.iload_n 2, 1) := by decide +kernel
theorem dX9_firstFrom_18 : decode cX9_firstFrom 18 = .ok (.ireturn, 1) := by decide +kernel
theorem dX9_firstFrom_19 : decode cX9_firstFrom 19 = .ok (.iinc 2 1, 3) := by decide +kernel
theorem dX9_firstFrom_22 : decode cX9_firstFrom 22 = .ok (.goto (-20), 3) := by decide +kernel
theorem dX9_firstFrom_25 : decode cX9_firstFrom 25 = .ok (.iconst (-1), 1) := by decide +kernel
theorem dX9_firstFrom_26 : decode cX9_firstFrom 26 = .ok (.ireturn, 1) := by decide +kernel
theorem dX9_pause_0 : decode cX9_pause 0 = .ok (.aload_n 0, 1) := by decide +kernel
theorem dX9_pause_1 : decode cX9_pause 1 = .ok (.iload_n 1, 1) := by decide +kernel
theorem dX9_pause_2 : decode cX9_pause 2 = .ok (.invokevirtual 284, 3) := by decide +kernel
theorem dX9_pause_5 : decode cX9_pause 5 = .ok (.ifCond .ne 6, 3) := by decide +kernel
theorem dX9_pause_8 : decode cX9_pause 8 = .ok (.bipush (-2), 2) := by decide +kernel
theorem dX9_pause_10 : decode cX9_pause 10 = .ok (.ireturn, 1) := by decide +kernel
theorem dX9_pause_11 : decode cX9_pause 11 = .ok (.ldc_w 296, 3) := by decide +kernel
theorem dX9_pause_14 : decode cX9_pause 14 = .ok (.istore_n 2, 1) := by decide +kernel
theorem dX9_pause_15 : decode cX9_pause 15 = .ok (.iconst 0, 1) := by decide +kernel
theorem dX9_pause_16 : decode cX9_pause 16 = .ok (.istore_n 3, 1) := by decide +kernel
theorem dX9_pause_17 : decode cX9_pause 17 = .ok (.iload_n 3, 1) := by decide +kernel
theorem dX9_pause_18 : decode cX9_pause 18 = .ok (.aload_n 0, 1) := by decide +kernel
theorem dX9_pause_19 : decode cX9_pause 19 = .ok (.invokevirtual 249, 3) := by decide +kernel
theorem dX9_pause_22 : decode cX9_pause 22 = .ok (.if_icmp .ge 52, 3) := by decide +kernel
theorem dX9_pause_25 : decode cX9_pause 25 = .ok (.aload_n 0, 1) := by decide +kernel
theorem dX9_pause_26 : decode cX9_pause 26 = .ok (.getfield 43, 3) := by decide +kernel
theorem dX9_pause_29 : decode cX9_pause 29 = .ok (.iload_n 1, 1) := by decide +kernel
theorem dX9_pause_30 : decode cX9_pause 30 = .ok (.iaload, 1) := by decide +kernel
theorem dX9_pause_31 : decode cX9_pause 31 = .ok (.iload_n 3, 1) := by decide +kernel
theorem dX9_pause_32 : decode cX9_pause 32 = .ok (.iconst 1, 1) := by decide +kernel
theorem dX9_pause_33 : decode cX9_pause 33 = .ok (.iadd, 1) := by decide +kernel
theorem dX9_pause_34 : decode cX9_pause 34 = .ok (.invokestatic 297, 3) := by decide +kernel
theorem dX9_pause_37 : decode cX9_pause 37 = .ok (.istore 4, 2) := by decide +kernel
theorem dX9_pause_39 : decode cX9_pause 39 = .ok (.aload_n 0, 1) := by decide +kernel
theorem dX9_pause_40 : decode cX9_pause 40 = .ok (.getfield 43, 3) := by decide +kernel
theorem dX9_pause_43 : decode cX9_pause 43 = .ok (.iload_n 1, 1) := by decide +kernel
theorem dX9_pause_44 : decode cX9_pause 44 = .ok (.iaload, 1) := by decide +kernel
theorem dX9_pause_45 : decode cX9_pause 45 = .ok (.iload_n 3, 1) := by decide +kernel
theorem dX9_pause_46 : decode cX9_pause 46 = .ok (.invokestatic 254, 3) := by decide +kernel
theorem dX9_pause_49 : decode cX9_pause 49 = .ok (.iconst 1, 1) := by decide +kernel
theorem dX9_pause_50 : decode cX9_pause 50 = .ok (.if_icmp .ne 18, 3) := by decide +kernel
theorem dX9_pause_53 : decode cX9_pause 53 = .ok (.iload 4, 2) := by decide +kernel
theorem dX9_pause_55 : decode cX9_pause 55 = .ok (.iconst (-1), 1) := by decide +kernel
theorem dX9_pause_56 : decode cX9_pause 56 = .ok (.if_icmp .eq 12, 3) := by decide +kernel
theorem dX9_pause_59 : decode cX9_pause 59 = .ok (.iload_n 2, 1) := by decide +kernel
theorem dX9_pause_60 : decode cX9_pause 60 = .ok (.iload 4, 2) := by decide +kernel
theorem dX9_pause_62 : decode cX9_pause 62 = .ok (.iload_n 3, 1) := by decide +kernel
theorem dX9_pause_63 : decode cX9_pause 63 = .ok (.isub, 1) := by decide +kernel
theorem dX9_pause_64 : decode cX9_pause 64 = .ok (.invokestatic 131, 3) := by decide +kernel
theorem dX9_pause_67 : decode cX9_pause 67 = .ok (.istore_n 2, 1) := by decide +kernel
theorem dX9_pause_68 : decode cX9_pause 68 = .ok (.iinc 3 1, 3) := by decide +kernel
theorem dX9_pause_71 : decode cX9_pause 71 = .ok (.goto (-54), 3) := by decide +kernel
theorem dX9_pause_74 : decode cX9_pause 74 = .ok (.iload_n 2, 1) := by decide +kernel
theorem dX9_pause_75 : decode cX9_pause 75 = .ok (.ldc_w 296, 3) := by decide +kernel
theorem dX9_pause_78 : decode cX9_pause 78 = .ok (.if_icmp .ne 7, 3) := by decide +kernel
theorem dX9_pause_81 : decode cX9_pause 81 = .ok (.iconst (-1), 1) := by decide +kernel
theorem dX9_pause_82 : decode cX9_pause 82 = .ok (.goto 4, 3) := by decide +kernel
theorem dX9_pause_85 : decode cX9_pause 85 = .ok (.iload_n 2, 1) := by decide +kernel
theorem dX9_pause_86 : decode cX9_pause 86 = .ok (.ireturn, 1) := by decide +kernel
theorem dX9_later_0 : decode cX9_later 0 = .ok (.aload_n 0, 1) := by decide +kernel
theorem dX9_later_1 : decode cX9_later 1 = .ok (.iload_n 2, 1) := by decide +kernel
theorem dX9_later_2 : decode cX9_later 2 = .ok (.invokevirtual 281, 3) := by decide +kernel
theorem dX9_later_5 : decode cX9_later 5 = .ok (.ifCond .eq 25, 3) := by decide +kernel
theorem dX9_later_8 : decode cX9_later 8 = .ok (.aload_n 0, 1) := by decide +kernel
theorem dX9_later_9 : decode cX9_later 9 = .ok (.iload_n 1, 1) := by decide +kernel
theorem dX9_later_10 : decode cX9_later 10 = .ok (.i2l, 1) := by decide +kernel
theorem dX9_later_11 : decode cX9_later 11 = .ok (.invokevirtual 224, 3) := by decide +kernel
theorem dX9_later_14 : decode cX9_later 14 = .ok (.ifCond .eq 16, 3) := by decide +kernel
theorem dX9_later_17 : decode cX9_later 17 = .ok (.aload_n 0, 1) := by decide +kernel
theorem dX9_later_18 : decode cX9_later 18 = .ok (.getfield 43, 3) := by decide +kernel
theorem dX9_later_21 : decode cX9_later 21 = .ok (.iload_n 1, 1) := by decide +kernel
theorem dX9_later_22 : decode cX9_later 22 = .ok (.iaload, 1) := by decide +kernel
theorem dX9_later_23 : decode cX9_later 23 = .ok (.iload_n 2, 1) := by decide +kernel
theorem dX9_later_24 : decode cX9_later 24 = .ok (.invokestatic 297, 3) := by decide +kernel
theorem dX9_later_27 : decode cX9_later 27 = .ok (.goto 5, 3) := by decide +kernel
theorem dX9_later_30 : decode cX9_later 30 = .ok (.bipush (-2), 2) := by decide +kernel
theorem dX9_later_32 : decode cX9_later 32 = .ok (.ireturn, 1) := by decide +kernel
theorem dX9_web_0 : decode cX9_web 0 = .ok (.aload_n 0, 1) := by decide +kernel
theorem dX9_web_1 : decode cX9_web 1 = .ok (.invokevirtual 263, 3) := by decide +kernel
theorem dX9_web_4 : decode cX9_web 4 = .ok (.aload_n 0, 1) := by decide +kernel
theorem dX9_web_5 : decode cX9_web 5 = .ok (.iload_n 1, 1) := by decide +kernel
theorem dX9_web_6 : decode cX9_web 6 = .ok (.i2l, 1) := by decide +kernel
theorem dX9_web_7 : decode cX9_web 7 = .ok (.invokevirtual 224, 3) := by decide +kernel
theorem dX9_web_10 : decode cX9_web 10 = .ok (.ifCond .ne 6, 3) := by decide +kernel
theorem dX9_web_13 : decode cX9_web 13 = .ok (.bipush (-2), 2) := by decide +kernel
theorem dX9_web_15 : decode cX9_web 15 = .ok (.ireturn, 1) := by decide +kernel
theorem dX9_web_16 : decode cX9_web 16 = .ok (.iconst 1, 1) := by decide +kernel
theorem dX9_web_17 : decode cX9_web 17 = .ok (.iload_n 1, 1) := by decide +kernel
theorem dX9_web_18 : decode cX9_web 18 = .ok (.ishl, 1) := by decide +kernel
theorem dX9_web_19 : decode cX9_web 19 = .ok (.istore_n 2, 1) := by decide +kernel
theorem dX9_web_20 : decode cX9_web 20 = .ok (.iconst 0, 1) := by decide +kernel
theorem dX9_web_21 : decode cX9_web 21 = .ok (.istore_n 3, 1) := by decide +kernel
theorem dX9_web_22 : decode cX9_web 22 = .ok (.iload_n 3, 1) := by decide +kernel
theorem dX9_web_23 : decode cX9_web 23 = .ok (.bipush 6, 2) := by decide +kernel
theorem dX9_web_25 : decode cX9_web 25 = .ok (.if_icmp .ge 58, 3) := by decide +kernel
theorem dX9_web_28 : decode cX9_web 28 = .ok (.iload_n 2, 1) := by decide +kernel
theorem dX9_web_29 : decode cX9_web 29 = .ok (.istore 4, 2) := by decide +kernel
theorem dX9_web_31 : decode cX9_web 31 = .ok (.iconst 0, 1) := by decide +kernel
theorem dX9_web_32 : decode cX9_web 32 = .ok (.istore 5, 2) := by decide +kernel
theorem dX9_web_34 : decode cX9_web 34 = .ok (.iload 5, 2) := by decide +kernel
theorem dX9_web_36 : decode cX9_web 36 = .ok (.aload_n 0, 1) := by decide +kernel
theorem dX9_web_37 : decode cX9_web 37 = .ok (.getfield 9, 3) := by decide +kernel
theorem dX9_web_40 : decode cX9_web 40 = .ok (.iconst 5, 1) := by decide +kernel
theorem dX9_web_41 : decode cX9_web 41 = .ok (.iaload, 1) := by decide +kernel
theorem dX9_web_42 : decode cX9_web 42 = .ok (.if_icmp .ge 32, 3) := by decide +kernel
theorem dX9_web_45 : decode cX9_web 45 = .ok (.iload 4, 2) := by decide +kernel
theorem dX9_web_47 : decode cX9_web 47 = .ok (.aload_n 0, 1) := by decide +kernel
theorem dX9_web_48 : decode cX9_web 48 = .ok (.iload 5, 2) := by decide +kernel
theorem dX9_web_50 : decode cX9_web 50 = .ok (.iload_n 2, 1) := by decide +kernel
theorem dX9_web_51 : decode cX9_web 51 = .ok (.invokevirtual 257, 3) := by decide +kernel
theorem dX9_web_54 : decode cX9_web 54 = .ok (.ifCond .le 10, 3) := by decide +kernel
theorem dX9_web_57 : decode cX9_web 57 = .ok (.iconst 1, 1) := by decide +kernel
theorem dX9_web_58 : decode cX9_web 58 = .ok (.iload 5, 2) := by decide +kernel
theorem dX9_web_60 : decode cX9_web 60 = .ok (.ishl, 1) := by decide +kernel
theorem dX9_web_61 : decode cX9_web 61 = .ok (.goto 4, 3) := by decide +kernel
theorem dX9_web_64 : decode cX9_web 64 = .ok (.iconst 0, 1) := by decide +kernel
theorem dX9_web_65 : decode cX9_web 65 = .ok (.ior, 1) := by decide +kernel
theorem dX9_web_66 : decode cX9_web 66 = .ok (.istore 4, 2) := by decide +kernel
theorem dX9_web_68 : decode cX9_web 68 = .ok (.iinc 5 1, 3) := by decide +kernel
theorem dX9_web_71 : decode cX9_web 71 = .ok (.goto (-37), 3) := by decide +kernel
theorem dX9_web_74 : decode cX9_web 74 = .ok (.iload 4, 2) := by decide +kernel
theorem dX9_web_76 : decode cX9_web 76 = .ok (.istore_n 2, 1) := by decide +kernel
theorem dX9_web_77 : decode cX9_web 77 = .ok (.iinc 3 1, 3) := by decide +kernel
theorem dX9_web_80 : decode cX9_web 80 = .ok (.goto (-58), 3) := by decide +kernel
theorem dX9_web_83 : decode cX9_web 83 = .ok (.iload_n 2, 1) := by decide +kernel
theorem dX9_web_84 : decode cX9_web 84 = .ok (.ireturn, 1) := by decide +kernel
theorem dX9_spreads_0 : decode cX9_spreads 0 = .ok (.aload_n 0, 1) := by decide +kernel
theorem dX9_spreads_1 : decode cX9_spreads 1 = .ok (.iload_n 1, 1) := by decide +kernel
theorem dX9_spreads_2 : decode cX9_spreads 2 = .ok (.invokevirtual 284, 3) := by decide +kernel
theorem dX9_spreads_5 : decode cX9_spreads 5 = .ok (.ifCond .ne 6, 3) := by decide +kernel
theorem dX9_spreads_8 : decode cX9_spreads 8 = .ok (.bipush (-2), 2) := by decide +kernel
theorem dX9_spreads_10 : decode cX9_spreads 10 = .ok (.ireturn, 1) := by decide +kernel
theorem dX9_spreads_11 : decode cX9_spreads 11 = .ok (.iconst 0, 1) := by decide +kernel
theorem dX9_spreads_12 : decode cX9_spreads 12 = .ok (.istore_n 2, 1) := by decide +kernel
theorem dX9_spreads_13 : decode cX9_spreads 13 = .ok (.iload_n 2, 1) := by decide +kernel
theorem dX9_spreads_14 : decode cX9_spreads 14 = .ok (.bipush 6, 2) := by decide +kernel
theorem dX9_spreads_16 : decode cX9_spreads 16 = .ok (.if_icmp .ge 24, 3) := by decide +kernel
theorem dX9_spreads_19 : decode cX9_spreads 19 = .ok (.aload_n 0, 1) := by decide +kernel
theorem dX9_spreads_20 : decode cX9_spreads 20 = .ok (.getfield 58, 3) := by decide +kernel
theorem dX9_spreads_23 : decode cX9_spreads 23 = .ok (.iload_n 2, 1) := by decide +kernel
theorem dX9_spreads_24 : decode cX9_spreads 24 = .ok (.aload_n 0, 1) := by decide +kernel
theorem dX9_spreads_25 : decode cX9_spreads 25 = .ok (.getfield 43, 3) := by decide +kernel
theorem dX9_spreads_28 : decode cX9_spreads 28 = .ok (.iload_n 2, 1) := by decide +kernel
theorem dX9_spreads_29 : decode cX9_spreads 29 = .ok (.iaload, 1) := by decide +kernel
theorem dX9_spreads_30 : decode cX9_spreads 30 = .ok (.invokestatic 278, 3) := by decide +kernel
theorem dX9_spreads_33 : decode cX9_spreads 33 = .ok (.iastore, 1) := by decide +kernel
theorem dX9_spreads_34 : decode cX9_spreads 34 = .ok (.iinc 2 1, 3) := by decide +kernel
theorem dX9_spreads_37 : decode cX9_spreads 37 = .ok (.goto (-24), 3) := by decide +kernel
theorem dX9_spreads_40 : decode cX9_spreads 40 = .ok (.aload_n 0, 1) := by decide +kernel
theorem dX9_spreads_41 : decode cX9_spreads 41 = .ok (.getfield 37, 3) := by decide +kernel
theorem dX9_spreads_44 : decode cX9_spreads 44 = .ok (.iload_n 1, 1) := by decide +kernel
theorem dX9_spreads_45 : decode cX9_spreads 45 = .ok (.iconst 1, 1) := by decide +kernel
theorem dX9_spreads_46 : decode cX9_spreads 46 = .ok (.aload_n 0, 1) := by decide +kernel
theorem dX9_spreads_47 : decode cX9_spreads 47 = .ok (.invokevirtual 249, 3) := by decide +kernel
theorem dX9_spreads_50 : decode cX9_spreads 50 = .ok (.ishl, 1) := by decide +kernel
theorem dX9_spreads_51 : decode cX9_spreads 51 = .ok (.iconst 1, 1) := by decide +kernel
theorem dX9_spreads_52 : decode cX9_spreads 52 = .ok (.isub, 1) := by decide +kernel
theorem dX9_spreads_53 : decode cX9_spreads 53 = .ok (.iastore, 1) := by decide +kernel
theorem dX9_spreads_54 : decode cX9_spreads 54 = .ok (.aload_n 0, 1) := by decide +kernel
theorem dX9_spreads_55 : decode cX9_spreads 55 = .ok (.invokevirtual 266, 3) := by decide +kernel
theorem dX9_spreads_58 : decode cX9_spreads 58 = .ok (.iconst 0, 1) := by decide +kernel
theorem dX9_spreads_59 : decode cX9_spreads 59 = .ok (.istore_n 2, 1) := by decide +kernel
theorem dX9_spreads_60 : decode cX9_spreads 60 = .ok (.iconst 0, 1) := by decide +kernel
theorem dX9_spreads_61 : decode cX9_spreads 61 = .ok (.istore_n 3, 1) := by decide +kernel
theorem dX9_spreads_62 : decode cX9_spreads 62 = .ok (.iload_n 3, 1) := by decide +kernel
theorem dX9_spreads_63 : decode cX9_spreads 63 = .ok (.aload_n 0, 1) := by decide +kernel
theorem dX9_spreads_64 : decode cX9_spreads 64 = .ok (.getfield 9, 3) := by decide +kernel
theorem dX9_spreads_67 : decode cX9_spreads 67 = .ok (.iconst 5, 1) := by decide +kernel
theorem dX9_spreads_68 : decode cX9_spreads 68 = .ok (.iaload, 1) := by decide +kernel
theorem dX9_spreads_69 : decode cX9_spreads 69 = .ok (.if_icmp .ge 42, 3) := by decide +kernel
theorem dX9_spreads_72 : decode cX9_spreads 72 = .ok (.iload_n 2, 1) := by decide +kernel
theorem dX9_spreads_73 : decode cX9_spreads 73 = .ok (.iload_n 3, 1) := by decide +kernel
theorem dX9_spreads_74 : decode cX9_spreads 74 = .ok (.iload_n 1, 1) := by decide +kernel
theorem dX9_spreads_75 : decode cX9_spreads 75 = .ok (.if_icmp .eq 27, 3) := by decide +kernel
theorem dX9_spreads_78 : decode cX9_spreads 78 = .ok (.aload_n 0, 1) := by decide +kernel
theorem dX9_spreads_79 : decode cX9_spreads 79 = .ok (.getfield 43, 3) := by decide +kernel
theorem dX9_spreads_82 : decode cX9_spreads 82 = .ok (.iload_n 3, 1) := by decide +kernel
theorem dX9_spreads_83 : decode cX9_spreads 83 = .ok (.iaload, 1) := by decide +kernel
theorem dX9_spreads_84 : decode cX9_spreads 84 = .ok (.invokestatic 278, 3) := by decide +kernel
theorem dX9_spreads_87 : decode cX9_spreads 87 = .ok (.aload_n 0, 1) := by decide +kernel
theorem dX9_spreads_88 : decode cX9_spreads 88 = .ok (.getfield 58, 3) := by decide +kernel
theorem dX9_spreads_91 : decode cX9_spreads 91 = .ok (.iload_n 3, 1) := by decide +kernel
theorem dX9_spreads_92 : decode cX9_spreads 92 = .ok (.iaload, 1) := by decide +kernel
theorem dX9_spreads_93 : decode cX9_spreads 93 = .ok (.if_icmp .ge 9, 3) := by decide +kernel
theorem dX9_spreads_96 : decode cX9_spreads 96 = .ok (.iconst 1, 1) := by decide +kernel
theorem dX9_spreads_97 : decode cX9_spreads 97 = .ok (.iload_n 3, 1) := by decide +kernel
theorem dX9_spreads_98 : decode cX9_spreads 98 = .ok (.ishl, 1) := by decide +kernel
theorem dX9_spreads_99 : decode cX9_spreads 99 = .ok (.goto 4, 3) := by decide +kernel
theorem dX9_spreads_102 : decode cX9_spreads 102 = .ok (.iconst 0, 1) := by decide +kernel
theorem dX9_spreads_103 : decode cX9_spreads 103 = .ok (.ior, 1) := by decide +kernel
theorem dX9_spreads_104 : decode cX9_spreads 104 = .ok (.istore_n 2, 1) := by decide +kernel
theorem dX9_spreads_105 : decode cX9_spreads 105 = .ok (.iinc 3 1, 3) := by decide +kernel
theorem dX9_spreads_108 : decode cX9_spreads 108 = .ok (.goto (-46), 3) := by decide +kernel
theorem dX9_spreads_111 : decode cX9_spreads 111 = .ok (.iload_n 2, 1) := by decide +kernel
theorem dX9_spreads_112 : decode cX9_spreads 112 = .ok (.ireturn, 1) := by decide +kernel
theorem dX9_quietBy_0 : decode cX9_quietBy 0 = .ok (.aload_n 0, 1) := by decide +kernel
theorem dX9_quietBy_1 : decode cX9_quietBy 1 = .ok (.getfield 9, 3) := by decide +kernel
theorem dX9_quietBy_4 : decode cX9_quietBy 4 = .ok (.iload_n 1, 1) := by decide +kernel
theorem dX9_quietBy_5 : decode cX9_quietBy 5 = .ok (.iaload, 1) := by decide +kernel
theorem dX9_quietBy_6 : decode cX9_quietBy 6 = .ok (.istore 5, 2) := by decide +kernel
theorem dX9_quietBy_8 : decode cX9_quietBy 8 = .ok (.iconst (-1), 1) := by decide +kernel
theorem dX9_quietBy_9 : decode cX9_quietBy 9 = .ok (.istore 6, 2) := by decide +kernel
theorem dX9_quietBy_11 : decode cX9_quietBy 11 = .ok (.iload_n 2, 1) := by decide +kernel
theorem dX9_quietBy_12 : decode cX9_quietBy 12 = .ok (.iload_n 3, 1) := by decide +kernel
theorem dX9_quietBy_13 : decode cX9_quietBy 13 = .ok (.if_icmp .le 7, 3) := by decide +kernel
theorem dX9_quietBy_16 : decode cX9_quietBy 16 = .ok (.iconst (-1), 1) := by decide +kernel
theorem dX9_quietBy_17 : decode cX9_quietBy 17 = .ok (.goto 4, 3) := by decide +kernel
theorem dX9_quietBy_20 : decode cX9_quietBy 20 = .ok (.iconst 1, 1) := by decide +kernel
theorem dX9_quietBy_21 : decode cX9_quietBy 21 = .ok (.istore 7, 2) := by decide +kernel
theorem dX9_quietBy_23 : decode cX9_quietBy 23 = .ok (.iload_n 2, 1) := by decide +kernel
theorem dX9_quietBy_24 : decode cX9_quietBy 24 = .ok (.istore 8, 2) := by decide +kernel
theorem dX9_quietBy_26 : decode cX9_quietBy 26 = .ok (.iload 8, 2) := by decide +kernel
theorem dX9_quietBy_28 : decode cX9_quietBy 28 = .ok (.iload_n 3, 1) := by decide +kernel
theorem dX9_quietBy_29 : decode cX9_quietBy 29 = .ok (.iload 7, 2) := by decide +kernel
theorem dX9_quietBy_31 : decode cX9_quietBy 31 = .ok (.iadd, 1) := by decide +kernel
theorem dX9_quietBy_32 : decode cX9_quietBy 32 = .ok (.if_icmp .eq 83, 3) := by decide +kernel
theorem dX9_quietBy_35 : decode cX9_quietBy 35 = .ok (.iload 6, 2) := by decide +kernel
theorem dX9_quietBy_37 : decode cX9_quietBy 37 = .ok (.iconst (-1), 1) := by decide +kernel
theorem dX9_quietBy_38 : decode cX9_quietBy 38 = .ok (.if_icmp .ne 77, 3) := by decide +kernel
theorem dX9_quietBy_41 : decode cX9_quietBy 41 = .ok (.aload_n 0, 1) := by decide +kernel
theorem dX9_quietBy_42 : decode cX9_quietBy 42 = .ok (.getfield 9, 3) := by decide +kernel
theorem dX9_quietBy_45 : decode cX9_quietBy 45 = .ok (.iload_n 1, 1) := by decide +kernel
theorem dX9_quietBy_46 : decode cX9_quietBy 46 = .ok (.iload 8, 2) := by decide +kernel
theorem dX9_quietBy_48 : decode cX9_quietBy 48 = .ok (.iastore, 1) := by decide +kernel
theorem dX9_quietBy_49 : decode cX9_quietBy 49 = .ok (.aload_n 0, 1) := by decide +kernel
theorem dX9_quietBy_50 : decode cX9_quietBy 50 = .ok (.invokevirtual 272, 3) := by decide +kernel
theorem dX9_quietBy_53 : decode cX9_quietBy 53 = .ok (.pop, 1) := by decide +kernel
theorem dX9_quietBy_54 : decode cX9_quietBy 54 = .ok (.iload 4, 2) := by decide +kernel
theorem dX9_quietBy_56 : decode cX9_quietBy 56 = .ok (.iconst (-1), 1) := by decide +kernel
theorem dX9_quietBy_57 : decode cX9_quietBy 57 = .ok (.if_icmp .ne 18, 3) := by decide +kernel
theorem dX9_quietBy_60 : decode cX9_quietBy 60 = .ok (.aload_n 0, 1) := by decide +kernel
theorem dX9_quietBy_61 : decode cX9_quietBy 61 = .ok (.invokevirtual 290, 3) := by decide +kernel
theorem dX9_quietBy_64 : decode cX9_quietBy 64 = .ok (.ifCond .ne 7, 3) := by decide +kernel
theorem dX9_quietBy_67 : decode cX9_quietBy 67 = .ok (.iconst 1, 1) := by decide +kernel
theorem dX9_quietBy_68 : decode cX9_quietBy 68 = .ok (.goto 22, 3) := by decide +kernel
theorem dX9_quietBy_71 : decode cX9_quietBy 71 = .ok (.iconst 0, 1) := by decide +kernel
theorem dX9_quietBy_72 : decode cX9_quietBy 72 = .ok (.goto 18, 3) := by decide +kernel
theorem dX9_quietBy_75 : decode cX9_quietBy 75 = .ok (.aload_n 0, 1) := by decide +kernel
theorem dX9_quietBy_76 : decode cX9_quietBy 76 = .ok (.getfield 43, 3) := by decide +kernel
theorem dX9_quietBy_79 : decode cX9_quietBy 79 = .ok (.iload 4, 2) := by decide +kernel
theorem dX9_quietBy_81 : decode cX9_quietBy 81 = .ok (.iaload, 1) := by decide +kernel
theorem dX9_quietBy_82 : decode cX9_quietBy 82 = .ok (.ifCond .ne 7, 3) := by decide +kernel
theorem dX9_quietBy_85 : decode cX9_quietBy 85 = .ok (.iconst 1, 1) := by decide +kernel
theorem dX9_quietBy_86 : decode cX9_quietBy 86 = .ok (.goto 4, 3) := by decide +kernel
theorem dX9_quietBy_89 : decode cX9_quietBy 89 = .ok (.iconst 0, 1) := by decide +kernel
theorem dX9_quietBy_90 : decode cX9_quietBy 90 = .ok (.istore 9, 2) := by decide +kernel
theorem dX9_quietBy_92 : decode cX9_quietBy 92 = .ok (.iload 9, 2) := by decide +kernel
theorem dX9_quietBy_94 : decode cX9_quietBy 94 = .ok (.ifCond .eq 8, 3) := by decide +kernel
theorem dX9_quietBy_97 : decode cX9_quietBy 97 = .ok (.iload 8, 2) := by decide +kernel
theorem dX9_quietBy_99 : decode cX9_quietBy 99 = .ok (.goto 4, 3) := by decide +kernel
theorem dX9_quietBy_102 : decode cX9_quietBy 102 = .ok (.iconst (-1), 1) := by decide +kernel
theorem dX9_quietBy_103 : decode cX9_quietBy 103 = .ok (.istore 6, 2) := by decide +kernel
theorem dX9_quietBy_105 : decode cX9_quietBy 105 = .ok (.iload 8, 2) := by decide +kernel
theorem dX9_quietBy_107 : decode cX9_quietBy 107 = .ok (.iload 7, 2) := by decide +kernel
theorem dX9_quietBy_109 : decode cX9_quietBy 109 = .ok (.iadd, 1) := by decide +kernel
theorem dX9_quietBy_110 : decode cX9_quietBy 110 = .ok (.istore 8, 2) := by decide +kernel
theorem dX9_quietBy_112 : decode cX9_quietBy 112 = .ok (.goto (-86), 3) := by decide +kernel
theorem dX9_quietBy_115 : decode cX9_quietBy 115 = .ok (.aload_n 0, 1) := by decide +kernel
theorem dX9_quietBy_116 : decode cX9_quietBy 116 = .ok (.getfield 9, 3) := by decide +kernel
theorem dX9_quietBy_119 : decode cX9_quietBy 119 = .ok (.iload_n 1, 1) := by decide +kernel
theorem dX9_quietBy_120 : decode cX9_quietBy 120 = .ok (.iload 5, 2) := by decide +kernel
theorem dX9_quietBy_122 : decode cX9_quietBy 122 = .ok (.iastore, 1) := by decide +kernel
theorem dX9_quietBy_123 : decode cX9_quietBy 123 = .ok (.iload 6, 2) := by decide +kernel
theorem dX9_quietBy_125 : decode cX9_quietBy 125 = .ok (.ireturn, 1) := by decide +kernel
theorem dX9_dull_0 : decode cX9_dull 0 = .ok (.aload_n 0, 1) := by decide +kernel
theorem dX9_dull_1 : decode cX9_dull 1 = .ok (.iload_n 1, 1) := by decide +kernel
theorem dX9_dull_2 : decode cX9_dull 2 = .ok (.i2l, 1) := by decide +kernel
theorem dX9_dull_3 : decode cX9_dull 3 = .ok (.invokevirtual 224, 3) := by decide +kernel
theorem dX9_dull_6 : decode cX9_dull 6 = .ok (.ifCond .eq 20, 3) := by decide +kernel
theorem dX9_dull_9 : decode cX9_dull 9 = .ok (.aload_n 0, 1) := by decide +kernel
theorem dX9_dull_10 : decode cX9_dull 10 = .ok (.bipush 11, 2) := by decide +kernel
theorem dX9_dull_12 : decode cX9_dull 12 = .ok (.iconst 2, 1) := by decide +kernel
theorem dX9_dull_13 : decode cX9_dull 13 = .ok (.iload_n 1, 1) := by decide +kernel
theorem dX9_dull_14 : decode cX9_dull 14 = .ok (.imul, 1) := by decide +kernel
theorem dX9_dull_15 : decode cX9_dull 15 = .ok (.iadd, 1) := by decide +kernel
theorem dX9_dull_16 : decode cX9_dull 16 = .ok (.bipush 9, 2) := by decide +kernel
theorem dX9_dull_18 : decode cX9_dull 18 = .ok (.iconst 0, 1) := by decide +kernel
theorem dX9_dull_19 : decode cX9_dull 19 = .ok (.iload_n 1, 1) := by decide +kernel
theorem dX9_dull_20 : decode cX9_dull 20 = .ok (.invokevirtual 300, 3) := by decide +kernel
theorem dX9_dull_23 : decode cX9_dull 23 = .ok (.goto 5, 3) := by decide +kernel
theorem dX9_dull_26 : decode cX9_dull 26 = .ok (.bipush (-2), 2) := by decide +kernel
theorem dX9_dull_28 : decode cX9_dull 28 = .ok (.ireturn, 1) := by decide +kernel
theorem dX9_bears_0 : decode cX9_bears 0 = .ok (.aload_n 0, 1) := by decide +kernel
theorem dX9_bears_1 : decode cX9_bears 1 = .ok (.iload_n 1, 1) := by decide +kernel
theorem dX9_bears_2 : decode cX9_bears 2 = .ok (.i2l, 1) := by decide +kernel
theorem dX9_bears_3 : decode cX9_bears 3 = .ok (.invokevirtual 224, 3) := by decide +kernel
theorem dX9_bears_6 : decode cX9_bears 6 = .ok (.ifCond .eq 22, 3) := by decide +kernel
theorem dX9_bears_9 : decode cX9_bears 9 = .ok (.aload_n 0, 1) := by decide +kernel
theorem dX9_bears_10 : decode cX9_bears 10 = .ok (.bipush 11, 2) := by decide +kernel
theorem dX9_bears_12 : decode cX9_bears 12 = .ok (.iconst 2, 1) := by decide +kernel
theorem dX9_bears_13 : decode cX9_bears 13 = .ok (.iload_n 1, 1) := by decide +kernel
theorem dX9_bears_14 : decode cX9_bears 14 = .ok (.imul, 1) := by decide +kernel
theorem dX9_bears_15 : decode cX9_bears 15 = .ok (.iadd, 1) := by decide +kernel
theorem dX9_bears_16 : decode cX9_bears 16 = .ok (.iconst 1, 1) := by decide +kernel
theorem dX9_bears_17 : decode cX9_bears 17 = .ok (.iadd, 1) := by decide +kernel
theorem dX9_bears_18 : decode cX9_bears 18 = .ok (.iconst 1, 1) := by decide +kernel
theorem dX9_bears_19 : decode cX9_bears 19 = .ok (.bipush 99, 2) := by decide +kernel
theorem dX9_bears_21 : decode cX9_bears 21 = .ok (.iload_n 1, 1) := by decide +kernel
theorem dX9_bears_22 : decode cX9_bears 22 = .ok (.invokevirtual 300, 3) := by decide +kernel
theorem dX9_bears_25 : decode cX9_bears 25 = .ok (.goto 5, 3) := by decide +kernel
theorem dX9_bears_28 : decode cX9_bears 28 = .ok (.bipush (-2), 2) := by decide +kernel
theorem dX9_bears_30 : decode cX9_bears 30 = .ok (.ireturn, 1) := by decide +kernel
theorem dX9_clean_0 : decode cX9_clean 0 = .ok (.aload_n 0, 1) := by decide +kernel
theorem dX9_clean_1 : decode cX9_clean 1 = .ok (.invokevirtual 269, 3) := by decide +kernel
theorem dX9_clean_4 : decode cX9_clean 4 = .ok (.ifCond .eq 15, 3) := by decide +kernel
theorem dX9_clean_7 : decode cX9_clean 7 = .ok (.aload_n 0, 1) := by decide +kernel
theorem dX9_clean_8 : decode cX9_clean 8 = .ok (.iconst 1, 1) := by decide +kernel
theorem dX9_clean_9 : decode cX9_clean 9 = .ok (.bipush 9, 2) := by decide +kernel
theorem dX9_clean_11 : decode cX9_clean 11 = .ok (.iconst 0, 1) := by decide +kernel
theorem dX9_clean_12 : decode cX9_clean 12 = .ok (.iconst (-1), 1) := by decide +kernel
theorem dX9_clean_13 : decode cX9_clean 13 = .ok (.invokevirtual 300, 3) := by decide +kernel
theorem dX9_clean_16 : decode cX9_clean 16 = .ok (.goto 5, 3) := by decide +kernel
theorem dX9_clean_19 : decode cX9_clean 19 = .ok (.bipush (-2), 2) := by decide +kernel
theorem dX9_clean_21 : decode cX9_clean 21 = .ok (.ireturn, 1) := by decide +kernel
theorem dX9_windowOf_0 : decode cX9_windowOf 0 = .ok (.iconst 0, 1) := by decide +kernel
theorem dX9_windowOf_1 : decode cX9_windowOf 1 = .ok (.istore_n 2, 1) := by decide +kernel
theorem dX9_windowOf_2 : decode cX9_windowOf 2 = .ok (.aload_n 0, 1) := by decide +kernel
theorem dX9_windowOf_3 : decode cX9_windowOf 3 = .ok (.iload_n 1, 1) := by decide +kernel
theorem dX9_windowOf_4 : decode cX9_windowOf 4 = .ok (.iconst 1, 1) := by decide +kernel
theorem dX9_windowOf_5 : decode cX9_windowOf 5 = .ok (.invokevirtual 234, 3) := by decide +kernel
theorem dX9_windowOf_8 : decode cX9_windowOf 8 = .ok (.istore_n 3, 1) := by decide +kernel
theorem dX9_windowOf_9 : decode cX9_windowOf 9 = .ok (.iload_n 3, 1) := by decide +kernel
theorem dX9_windowOf_10 : decode cX9_windowOf 10 = .ok (.aload_n 0, 1) := by decide +kernel
theorem dX9_windowOf_11 : decode cX9_windowOf 11 = .ok (.iload_n 1, 1) := by decide +kernel
theorem dX9_windowOf_12 : decode cX9_windowOf 12 = .ok (.iconst 2, 1) := by decide +kernel
theorem dX9_windowOf_13 : decode cX9_windowOf 13 = .ok (.invokevirtual 234, 3) := by decide +kernel
theorem dX9_windowOf_16 : decode cX9_windowOf 16 = .ok (.if_icmp .gt 23, 3) := by decide +kernel
theorem dX9_windowOf_19 : decode cX9_windowOf 19 = .ok (.iload_n 3, 1) := by decide +kernel
theorem dX9_windowOf_20 : decode cX9_windowOf 20 = .ok (.aload_n 0, 1) := by decide +kernel
theorem dX9_windowOf_21 : decode cX9_windowOf 21 = .ok (.getfield 251, 3) := by decide +kernel
theorem dX9_windowOf_24 : decode cX9_windowOf 24 = .ok (.if_icmp .gt 15, 3) := by decide +kernel
theorem dX9_windowOf_27 : decode cX9_windowOf 27 = .ok (.iload_n 2, 1) := by decide +kernel
theorem dX9_windowOf_28 : decode cX9_windowOf 28 = .ok (.iconst 1, 1) := by decide +kernel
theorem dX9_windowOf_29 : decode cX9_windowOf 29 = .ok (.iload_n 3, 1) := by decide +kernel
theorem dX9_windowOf_30 : decode cX9_windowOf 30 = .ok (.ishl, 1) := by decide +kernel
theorem dX9_windowOf_31 : decode cX9_windowOf 31 = .ok (.ior, 1) := by decide +kernel
theorem dX9_windowOf_32 : decode cX9_windowOf 32 = .ok (.istore_n 2, 1) := by decide +kernel
theorem dX9_windowOf_33 : decode cX9_windowOf 33 = .ok (.iinc 3 1, 3) := by decide +kernel
theorem dX9_windowOf_36 : decode cX9_windowOf 36 = .ok (.goto (-27), 3) := by decide +kernel
theorem dX9_windowOf_39 : decode cX9_windowOf 39 = .ok (.iload_n 2, 1) := by decide +kernel
theorem dX9_windowOf_40 : decode cX9_windowOf 40 = .ok (.ireturn, 1) := by decide +kernel
theorem dX9_ahead_0 : decode cX9_ahead 0 = .ok (.iconst 1, 1) := by decide +kernel
theorem dX9_ahead_1 : decode cX9_ahead 1 = .ok (.iload_n 1, 1) := by decide +kernel
theorem dX9_ahead_2 : decode cX9_ahead 2 = .ok (.ishl, 1) := by decide +kernel
theorem dX9_ahead_3 : decode cX9_ahead 3 = .ok (.iconst 1, 1) := by decide +kernel
theorem dX9_ahead_4 : decode cX9_ahead 4 = .ok (.isub, 1) := by decide +kernel
theorem dX9_ahead_5 : decode cX9_ahead 5 = .ok (.ireturn, 1) := by decide +kernel
theorem dX9_claimOf_0 : decode cX9_claimOf 0 = .ok (.aload_n 0, 1) := by decide +kernel
theorem dX9_claimOf_1 : decode cX9_claimOf 1 = .ok (.getfield 43, 3) := by decide +kernel
theorem dX9_claimOf_4 : decode cX9_claimOf 4 = .ok (.iload_n 2, 1) := by decide +kernel
theorem dX9_claimOf_5 : decode cX9_claimOf 5 = .ok (.iaload, 1) := by decide +kernel
theorem dX9_claimOf_6 : decode cX9_claimOf 6 = .ok (.aload_n 0, 1) := by decide +kernel
theorem dX9_claimOf_7 : decode cX9_claimOf 7 = .ok (.iload_n 1, 1) := by decide +kernel
theorem dX9_claimOf_8 : decode cX9_claimOf 8 = .ok (.invokevirtual 304, 3) := by decide +kernel
theorem dX9_claimOf_11 : decode cX9_claimOf 11 = .ok (.iand, 1) := by decide +kernel
theorem dX9_claimOf_12 : decode cX9_claimOf 12 = .ok (.istore 4, 2) := by decide +kernel
theorem dX9_claimOf_14 : decode cX9_claimOf 14 = .ok (.aload_n 0, 1) := by decide +kernel
theorem dX9_claimOf_15 : decode cX9_claimOf 15 = .ok (.getfield 243, 3) := by decide +kernel
theorem dX9_claimOf_18 : decode cX9_claimOf 18 = .ok (.iconst 1, 1) := by decide +kernel
theorem dX9_claimOf_19 : decode cX9_claimOf 19 = .ok (.if_icmp .ne 14, 3) := by decide +kernel
theorem dX9_claimOf_22 : decode cX9_claimOf 22 = .ok (.iload 4, 2) := by decide +kernel
theorem dX9_claimOf_24 : decode cX9_claimOf 24 = .ok (.aload_n 0, 1) := by decide +kernel
theorem dX9_claimOf_25 : decode cX9_claimOf 25 = .ok (.getfield 237, 3) := by decide +kernel
theorem dX9_claimOf_28 : decode cX9_claimOf 28 = .ok (.iconst (-1), 1) := by decide +kernel
theorem dX9_claimOf_29 : decode cX9_claimOf 29 = .ok (.ixor, 1) := by decide +kernel
theorem dX9_claimOf_30 : decode cX9_claimOf 30 = .ok (.iand, 1) := by decide +kernel
theorem dX9_claimOf_31 : decode cX9_claimOf 31 = .ok (.istore 4, 2) := by decide +kernel
theorem dX9_claimOf_33 : decode cX9_claimOf 33 = .ok (.aload_n 0, 1) := by decide +kernel
theorem dX9_claimOf_34 : decode cX9_claimOf 34 = .ok (.iload 4, 2) := by decide +kernel
theorem dX9_claimOf_36 : decode cX9_claimOf 36 = .ok (.invokestatic 287, 3) := by decide +kernel
theorem dX9_claimOf_39 : decode cX9_claimOf 39 = .ok (.putfield 307, 3) := by decide +kernel
theorem dX9_claimOf_42 : decode cX9_claimOf 42 = .ok (.iconst 0, 1) := by decide +kernel
theorem dX9_claimOf_43 : decode cX9_claimOf 43 = .ok (.istore 5, 2) := by decide +kernel
theorem dX9_claimOf_45 : decode cX9_claimOf 45 = .ok (.aload_n 0, 1) := by decide +kernel
theorem dX9_claimOf_46 : decode cX9_claimOf 46 = .ok (.getfield 243, 3) := by decide +kernel
theorem dX9_claimOf_49 : decode cX9_claimOf 49 = .ok (.iconst 2, 1) := by decide +kernel
theorem dX9_claimOf_50 : decode cX9_claimOf 50 = .ok (.if_icmp .ne 7, 3) := by decide +kernel
theorem dX9_claimOf_53 : decode cX9_claimOf 53 = .ok (.iconst 3, 1) := by decide +kernel
theorem dX9_claimOf_54 : decode cX9_claimOf 54 = .ok (.goto 4, 3) := by decide +kernel
theorem dX9_claimOf_57 : decode cX9_claimOf 57 = .ok (.iconst 1, 1) := by decide +kernel
theorem dX9_claimOf_58 : decode cX9_claimOf 58 = .ok (.istore 6, 2) := by decide +kernel
theorem dX9_claimOf_60 : decode cX9_claimOf 60 = .ok (.iconst 0, 1) := by decide +kernel
theorem dX9_claimOf_61 : decode cX9_claimOf 61 = .ok (.istore 7, 2) := by decide +kernel
theorem dX9_claimOf_63 : decode cX9_claimOf 63 = .ok (.iload 7, 2) := by decide +kernel
theorem dX9_claimOf_65 : decode cX9_claimOf 65 = .ok (.iload 6, 2) := by decide +kernel
theorem dX9_claimOf_67 : decode cX9_claimOf 67 = .ok (.if_icmp .ge 116, 3) := by decide +kernel
theorem dX9_claimOf_70 : decode cX9_claimOf 70 = .ok (.iload 4, 2) := by decide +kernel
theorem dX9_claimOf_72 : decode cX9_claimOf 72 = .ok (.ifCond .eq 111, 3) := by decide +kernel
theorem dX9_claimOf_75 : decode cX9_claimOf 75 = .ok (.iload 4, 2) := by decide +kernel
theorem dX9_claimOf_77 : decode cX9_claimOf 77 = .ok (.invokestatic 287, 3) := by decide +kernel
theorem dX9_claimOf_80 : decode cX9_claimOf 80 = .ok (.istore 8, 2) := by decide +kernel
theorem dX9_claimOf_82 : decode cX9_claimOf 82 = .ok (.iload 4, 2) := by decide +kernel
theorem dX9_claimOf_84 : decode cX9_claimOf 84 = .ok (.iconst 1, 1) := by decide +kernel
theorem dX9_claimOf_85 : decode cX9_claimOf 85 = .ok (.iload 8, 2) := by decide +kernel
theorem dX9_claimOf_87 : decode cX9_claimOf 87 = .ok (.ishl, 1) := by decide +kernel
theorem dX9_claimOf_88 : decode cX9_claimOf 88 = .ok (.iconst (-1), 1) := by decide +kernel
theorem dX9_claimOf_89 : decode cX9_claimOf 89 = .ok (.ixor, 1) := by decide +kernel
theorem dX9_claimOf_90 : decode cX9_claimOf 90 = .ok (.iand, 1) := by decide +kernel
theorem dX9_claimOf_91 : decode cX9_claimOf 91 = .ok (.istore 4, 2) := by decide +kernel
theorem dX9_claimOf_93 : decode cX9_claimOf 93 = .ok (.aload_n 0, 1) := by decide +kernel
theorem dX9_claimOf_94 : decode cX9_claimOf 94 = .ok (.getfield 243, 3) := by decide +kernel
theorem dX9_claimOf_97 : decode cX9_claimOf 97 = .ok (.iconst 3, 1) := by decide +kernel
theorem dX9_claimOf_98 : decode cX9_claimOf 98 = .ok (.if_icmp .ne 29, 3) := by decide +kernel
theorem dX9_claimOf_101 : decode cX9_claimOf 101 = .ok (.aload_n 0, 1) := by decide +kernel
theorem dX9_claimOf_102 : decode cX9_claimOf 102 = .ok (.getfield 37, 3) := by decide +kernel
theorem dX9_claimOf_105 : decode cX9_claimOf 105 = .ok (.iload_n 2, 1) := by decide +kernel
theorem dX9_claimOf_106 : decode cX9_claimOf 106 = .ok (.iaload, 1) := by decide +kernel
theorem dX9_claimOf_107 : decode cX9_claimOf 107 = .ok (.aload_n 0, 1) := by decide +kernel
theorem dX9_claimOf_108 : decode cX9_claimOf 108 = .ok (.iload_n 1, 1) := by decide +kernel
theorem dX9_claimOf_109 : decode cX9_claimOf 109 = .ok (.invokevirtual 304, 3) := by decide +kernel
theorem dX9_claimOf_112 : decode cX9_claimOf 112 = .ok (.iand, 1) := by decide +kernel
theorem dX9_claimOf_113 : decode cX9_claimOf 113 = .ok (.aload_n 0, 1) := by decide +kernel
theorem dX9_claimOf_114 : decode cX9_claimOf 114 = .ok (.iload 8, 2) := by decide +kernel
theorem dX9_claimOf_116 : decode cX9_claimOf 116 = .ok (.invokevirtual 310, 3) := by decide +kernel
theorem dX9_claimOf_119 : decode cX9_claimOf 119 = .ok (.iand, 1) := by decide +kernel
theorem dX9_claimOf_120 : decode cX9_claimOf 120 = .ok (.ifCond .eq 7, 3) := by decide +kernel
theorem dX9_claimOf_123 : decode cX9_claimOf 123 = .ok (.iconst 1, 1) := by decide +kernel
theorem dX9_claimOf_124 : decode cX9_claimOf 124 = .ok (.goto 4, 3) := by decide +kernel
theorem dX9_claimOf_127 : decode cX9_claimOf 127 = .ok (.iconst 0, 1) := by decide +kernel
theorem dX9_claimOf_128 : decode cX9_claimOf 128 = .ok (.istore 9, 2) := by decide +kernel
theorem dX9_claimOf_130 : decode cX9_claimOf 130 = .ok (.iload 9, 2) := by decide +kernel
theorem dX9_claimOf_132 : decode cX9_claimOf 132 = .ok (.ifCond .eq 14, 3) := by decide +kernel
theorem dX9_claimOf_135 : decode cX9_claimOf 135 = .ok (.aload_n 0, 1) := by decide +kernel
theorem dX9_claimOf_136 : decode cX9_claimOf 136 = .ok (.iload_n 1, 1) := by decide +kernel
theorem dX9_claimOf_137 : decode cX9_claimOf 137 = .ok (.iconst 3, 1) := by decide +kernel
theorem dX9_claimOf_138 : decode cX9_claimOf 138 = .ok (.invokevirtual 234, 3) := by decide +kernel
theorem dX9_claimOf_141 : decode cX9_claimOf 141 = .ok (.iconst 2, 1) := by decide +kernel
theorem dX9_claimOf_142 : decode cX9_claimOf 142 = .ok (.idiv, 1) := by decide +kernel
theorem dX9_claimOf_143 : decode cX9_claimOf 143 = .ok (.goto 9, 3) := by decide +kernel
theorem dX9_claimOf_146 : decode cX9_claimOf 146 = .ok (.aload_n 0, 1) := by decide +kernel
theorem dX9_claimOf_147 : decode cX9_claimOf 147 = .ok (.iload_n 1, 1) := by decide +kernel
theorem dX9_claimOf_148 : decode cX9_claimOf 148 = .ok (.iconst 3, 1) := by decide +kernel
theorem dX9_claimOf_149 : decode cX9_claimOf 149 = .ok (.invokevirtual 234, 3) := by decide +kernel
theorem dX9_claimOf_152 : decode cX9_claimOf 152 = .ok (.istore 10, 2) := by decide +kernel
theorem dX9_claimOf_154 : decode cX9_claimOf 154 = .ok (.iload 5, 2) := by decide +kernel
theorem dX9_claimOf_156 : decode cX9_claimOf 156 = .ok (.iload 10, 2) := by decide +kernel
theorem dX9_claimOf_158 : decode cX9_claimOf 158 = .ok (.iadd, 1) := by decide +kernel
theorem dX9_claimOf_159 : decode cX9_claimOf 159 = .ok (.istore 5, 2) := by decide +kernel
theorem dX9_claimOf_161 : decode cX9_claimOf 161 = .ok (.iload_n 3, 1) := by decide +kernel
theorem dX9_claimOf_162 : decode cX9_claimOf 162 = .ok (.ifCond .eq 15, 3) := by decide +kernel
theorem dX9_claimOf_165 : decode cX9_claimOf 165 = .ok (.aload_n 0, 1) := by decide +kernel
theorem dX9_claimOf_166 : decode cX9_claimOf 166 = .ok (.getfield 61, 3) := by decide +kernel
theorem dX9_claimOf_169 : decode cX9_claimOf 169 = .ok (.iload 8, 2) := by decide +kernel
theorem dX9_claimOf_171 : decode cX9_claimOf 171 = .ok (.dup2, 1) := by decide +kernel
theorem dX9_claimOf_172 : decode cX9_claimOf 172 = .ok (.iaload, 1) := by decide +kernel
theorem dX9_claimOf_173 : decode cX9_claimOf 173 = .ok (.iload 10, 2) := by decide +kernel
theorem dX9_claimOf_175 : decode cX9_claimOf 175 = .ok (.iadd, 1) := by decide +kernel
theorem dX9_claimOf_176 : decode cX9_claimOf 176 = .ok (.iastore, 1) := by decide +kernel
theorem dX9_claimOf_177 : decode cX9_claimOf 177 = .ok (.iinc 7 1, 3) := by decide +kernel
theorem dX9_claimOf_180 : decode cX9_claimOf 180 = .ok (.goto (-117), 3) := by decide +kernel
theorem dX9_claimOf_183 : decode cX9_claimOf 183 = .ok (.iload 5, 2) := by decide +kernel
theorem dX9_claimOf_185 : decode cX9_claimOf 185 = .ok (.ireturn, 1) := by decide +kernel
theorem dX9_claimOf__0 : decode cX9_claimOf_ 0 = .ok (.aload_n 0, 1) := by decide +kernel
theorem dX9_claimOf__1 : decode cX9_claimOf_ 1 = .ok (.iload_n 1, 1) := by decide +kernel
theorem dX9_claimOf__2 : decode cX9_claimOf_ 2 = .ok (.aload_n 0, 1) := by decide +kernel
theorem dX9_claimOf__3 : decode cX9_claimOf_ 3 = .ok (.iload_n 1, 1) := by decide +kernel
theorem dX9_claimOf__4 : decode cX9_claimOf_ 4 = .ok (.iconst 0, 1) := by decide +kernel
theorem dX9_claimOf__5 : decode cX9_claimOf_ 5 = .ok (.invokevirtual 234, 3) := by decide +kernel
theorem dX9_claimOf__8 : decode cX9_claimOf_ 8 = .ok (.iconst 0, 1) := by decide +kernel
theorem dX9_claimOf__9 : decode cX9_claimOf_ 9 = .ok (.invokevirtual 313, 3) := by decide +kernel
theorem dX9_claimOf__12 : decode cX9_claimOf_ 12 = .ok (.ireturn, 1) := by decide +kernel
theorem dX9_layPaid_0 : decode cX9_layPaid 0 = .ok (.iconst 0, 1) := by decide +kernel
theorem dX9_layPaid_1 : decode cX9_layPaid 1 = .ok (.istore_n 1, 1) := by decide +kernel
theorem dX9_layPaid_2 : decode cX9_layPaid 2 = .ok (.iload_n 1, 1) := by decide +kernel
theorem dX9_layPaid_3 : decode cX9_layPaid 3 = .ok (.bipush 30, 2) := by decide +kernel
theorem dX9_layPaid_5 : decode cX9_layPaid 5 = .ok (.if_icmp .ge 16, 3) := by decide +kernel
theorem dX9_layPaid_8 : decode cX9_layPaid 8 = .ok (.aload_n 0, 1) := by decide +kernel
theorem dX9_layPaid_9 : decode cX9_layPaid 9 = .ok (.getfield 61, 3) := by decide +kernel
theorem dX9_layPaid_12 : decode cX9_layPaid 12 = .ok (.iload_n 1, 1) := by decide +kernel
theorem dX9_layPaid_13 : decode cX9_layPaid 13 = .ok (.iconst 0, 1) := by decide +kernel
theorem dX9_layPaid_14 : decode cX9_layPaid 14 = .ok (.iastore, 1) := by decide +kernel
theorem dX9_layPaid_15 : decode cX9_layPaid 15 = .ok (.iinc 1 1, 3) := by decide +kernel
theorem dX9_layPaid_18 : decode cX9_layPaid 18 = .ok (.goto (-16), 3) := by decide +kernel
theorem dX9_layPaid_21 : decode cX9_layPaid 21 = .ok (.iconst 0, 1) := by decide +kernel
theorem dX9_layPaid_22 : decode cX9_layPaid 22 = .ok (.istore_n 1, 1) := by decide +kernel
theorem dX9_layPaid_23 : decode cX9_layPaid 23 = .ok (.iload_n 1, 1) := by decide +kernel
theorem dX9_layPaid_24 : decode cX9_layPaid 24 = .ok (.aload_n 0, 1) := by decide +kernel
theorem dX9_layPaid_25 : decode cX9_layPaid 25 = .ok (.getfield 9, 3) := by decide +kernel
theorem dX9_layPaid_28 : decode cX9_layPaid 28 = .ok (.bipush 8, 2) := by decide +kernel
theorem dX9_layPaid_30 : decode cX9_layPaid 30 = .ok (.iaload, 1) := by decide +kernel
theorem dX9_layPaid_31 : decode cX9_layPaid 31 = .ok (.if_icmp .ge 22, 3) := by decide +kernel
theorem dX9_layPaid_34 : decode cX9_layPaid 34 = .ok (.aload_n 0, 1) := by decide +kernel
theorem dX9_layPaid_35 : decode cX9_layPaid 35 = .ok (.iload_n 1, 1) := by decide +kernel
theorem dX9_layPaid_36 : decode cX9_layPaid 36 = .ok (.aload_n 0, 1) := by decide +kernel
theorem dX9_layPaid_37 : decode cX9_layPaid 37 = .ok (.iload_n 1, 1) := by decide +kernel
theorem dX9_layPaid_38 : decode cX9_layPaid 38 = .ok (.iconst 0, 1) := by decide +kernel
theorem dX9_layPaid_39 : decode cX9_layPaid 39 = .ok (.invokevirtual 234, 3) := by decide +kernel
theorem dX9_layPaid_42 : decode cX9_layPaid 42 = .ok (.iconst 1, 1) := by decide +kernel
theorem dX9_layPaid_43 : decode cX9_layPaid 43 = .ok (.invokevirtual 313, 3) := by decide +kernel
theorem dX9_layPaid_46 : decode cX9_layPaid 46 = .ok (.pop, 1) := by decide +kernel
theorem dX9_layPaid_47 : decode cX9_layPaid 47 = .ok (.iinc 1 1, 3) := by decide +kernel
theorem dX9_layPaid_50 : decode cX9_layPaid 50 = .ok (.goto (-27), 3) := by decide +kernel
theorem dX9_layPaid_53 : decode cX9_layPaid 53 = .ok (.return_, 1) := by decide +kernel
theorem dX9_moneyAt_0 : decode cX9_moneyAt 0 = .ok (.aload_n 0, 1) := by decide +kernel
