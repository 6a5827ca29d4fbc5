theorem dX6_init_0 : decode cX6_init 0 = .ok (.aload_n 0, 1) := by decide +kernel
theorem dX6_init_1 : decode cX6_init 1 = .ok (.invokespecial 1, 3) := by decide +kernel
theorem dX6_init_4 : decode cX6_init 4 = .ok (.aload_n 0, 1) := by decide +kernel
theorem dX6_init_5 : decode cX6_init 5 = .ok (.iconst 4, 1) := by decide +kernel
theorem dX6_init_6 : decode cX6_init 6 = .ok (.newarray .int, 2) := by decide +kernel
theorem dX6_init_8 : decode cX6_init 8 = .ok (.putfield 7, 3) := by decide +kernel
theorem dX6_init_11 : decode cX6_init 11 = .ok (.aload_n 0, 1) := by decide +kernel
theorem dX6_init_12 : decode cX6_init 12 = .ok (.iconst 4, 1) := by decide +kernel
theorem dX6_init_13 : decode cX6_init 13 = .ok (.newarray .int, 2) := by decide +kernel
theorem dX6_init_15 : decode cX6_init 15 = .ok (.putfield 13, 3) := by decide +kernel
theorem dX6_init_18 : decode cX6_init 18 = .ok (.aload_n 0, 1) := by decide +kernel
theorem dX6_init_19 : decode cX6_init 19 = .ok (.sipush 240, 3) := by decide +kernel
theorem dX6_init_22 : decode cX6_init 22 = .ok (.newarray .int, 2) := by decide +kernel
theorem dX6_init_24 : decode cX6_init 24 = .ok (.putfield 16, 3) := by decide +kernel
theorem dX6_init_27 : decode cX6_init 27 = .ok (.aload_n 0, 1) := by decide +kernel
theorem dX6_init_28 : decode cX6_init 28 = .ok (.bipush 60, 2) := by decide +kernel
theorem dX6_init_30 : decode cX6_init 30 = .ok (.newarray .int, 2) := by decide +kernel
theorem dX6_init_32 : decode cX6_init 32 = .ok (.putfield 19, 3) := by decide +kernel
theorem dX6_init_35 : decode cX6_init 35 = .ok (.aload_n 0, 1) := by decide +kernel
theorem dX6_init_36 : decode cX6_init 36 = .ok (.bipush 96, 2) := by decide +kernel
theorem dX6_init_38 : decode cX6_init 38 = .ok (.newarray .int, 2) := by decide +kernel
theorem dX6_init_40 : decode cX6_init 40 = .ok (.putfield 22, 3) := by decide +kernel
theorem dX6_init_43 : decode cX6_init 43 = .ok (.aload_n 0, 1) := by decide +kernel
theorem dX6_init_44 : decode cX6_init 44 = .ok (.iconst 3, 1) := by decide +kernel
theorem dX6_init_45 : decode cX6_init 45 = .ok (.newarray .int, 2) := by decide +kernel
theorem dX6_init_47 : decode cX6_init 47 = .ok (.putfield 25, 3) := by decide +kernel
theorem dX6_init_50 : decode cX6_init 50 = .ok (.aload_n 0, 1) := by decide +kernel
theorem dX6_init_51 : decode cX6_init 51 = .ok (.bipush 16, 2) := by decide +kernel
theorem dX6_init_53 : decode cX6_init 53 = .ok (.newarray .int, 2) := by decide +kernel
theorem dX6_init_55 : decode cX6_init 55 = .ok (.putfield 28, 3) := by decide +kernel
theorem dX6_init_58 : decode cX6_init 58 = .ok (.aload_n 0, 1) := by decide +kernel
theorem dX6_init_59 : decode cX6_init 59 = .ok (.bipush 24, 2) := by decide +kernel
theorem dX6_init_61 : decode cX6_init 61 = .ok (.newarray .int, 2) := by decide +kernel
theorem dX6_init_63 : decode cX6_init 63 = .ok (.putfield 31, 3) := by decide +kernel
theorem dX6_init_66 : decode cX6_init 66 = .ok (.aload_n 0, 1) := by decide +kernel
theorem dX6_init_67 : decode cX6_init 67 = .ok (.bipush 24, 2) := by decide +kernel
theorem dX6_init_69 : decode cX6_init 69 = .ok (.newarray .int, 2) := by decide +kernel
theorem dX6_init_71 : decode cX6_init 71 = .ok (.putfield 34, 3) := by decide +kernel
theorem dX6_init_74 : decode cX6_init 74 = .ok (.aload_n 0, 1) := by decide +kernel
theorem dX6_init_75 : decode cX6_init 75 = .ok (.bipush 16, 2) := by decide +kernel
theorem dX6_init_77 : decode cX6_init 77 = .ok (.newarray .int, 2) := by decide +kernel
theorem dX6_init_79 : decode cX6_init 79 = .ok (.putfield 37, 3) := by decide +kernel
theorem dX6_init_82 : decode cX6_init 82 = .ok (.aload_n 0, 1) := by decide +kernel
theorem dX6_init_83 : decode cX6_init 83 = .ok (.bipush 8, 2) := by decide +kernel
theorem dX6_init_85 : decode cX6_init 85 = .ok (.newarray .int, 2) := by decide +kernel
theorem dX6_init_87 : decode cX6_init 87 = .ok (.putfield 40, 3) := by decide +kernel
theorem dX6_init_90 : decode cX6_init 90 = .ok (.aload_n 0, 1) := by decide +kernel
theorem dX6_init_91 : decode cX6_init 91 = .ok (.bipush 8, 2) := by decide +kernel
theorem dX6_init_93 : decode cX6_init 93 = .ok (.newarray .int, 2) := by decide +kernel
theorem dX6_init_95 : decode cX6_init 95 = .ok (.putfield 43, 3) := by decide +kernel
theorem dX6_init_98 : decode cX6_init 98 = .ok (.aload_n 0, 1) := by decide +kernel
theorem dX6_init_99 : decode cX6_init 99 = .ok (.bipush 8, 2) := by decide +kernel
theorem dX6_init_101 : decode cX6_init 101 = .ok (.newarray .int, 2) := by decide +kernel
theorem dX6_init_103 : decode cX6_init 103 = .ok (.putfield 46, 3) := by decide +kernel
theorem dX6_init_106 : decode cX6_init 106 = .ok (.aload_n 0, 1) := by decide +kernel
theorem dX6_init_107 : decode cX6_init 107 = .ok (.bipush 8, 2) := by decide +kernel
theorem dX6_init_109 : decode cX6_init 109 = .ok (.newarray .int, 2) := by decide +kernel
theorem dX6_init_111 : decode cX6_init 111 = .ok (.putfield 49, 3) := by decide +kernel
theorem dX6_init_114 : decode cX6_init 114 = .ok (.aload_n 0, 1) := by decide +kernel
theorem dX6_init_115 : decode cX6_init 115 = .ok (.bipush 8, 2) := by decide +kernel
theorem dX6_init_117 : decode cX6_init 117 = .ok (.newarray .int, 2) := by decide +kernel
theorem dX6_init_119 : decode cX6_init 119 = .ok (.putfield 52, 3) := by decide +kernel
theorem dX6_init_122 : decode cX6_init 122 = .ok (.aload_n 0, 1) := by decide +kernel
theorem dX6_init_123 : decode cX6_init 123 = .ok (.bipush 8, 2) := by decide +kernel
theorem dX6_init_125 : decode cX6_init 125 = .ok (.newarray .int, 2) := by decide +kernel
theorem dX6_init_127 : decode cX6_init 127 = .ok (.putfield 55, 3) := by decide +kernel
theorem dX6_init_130 : decode cX6_init 130 = .ok (.aload_n 0, 1) := by decide +kernel
theorem dX6_init_131 : decode cX6_init 131 = .ok (.bipush 8, 2) := by decide +kernel
theorem dX6_init_133 : decode cX6_init 133 = .ok (.newarray .int, 2) := by decide +kernel
theorem dX6_init_135 : decode cX6_init 135 = .ok (.putfield 58, 3) := by decide +kernel
theorem dX6_init_138 : decode cX6_init 138 = .ok (.aload_n 0, 1) := by decide +kernel
theorem dX6_init_139 : decode cX6_init 139 = .ok (.sipush 192, 3) := by decide +kernel
theorem dX6_init_142 : decode cX6_init 142 = .ok (.newarray .int, 2) := by decide +kernel
theorem dX6_init_144 : decode cX6_init 144 = .ok (.putfield 61, 3) := by decide +kernel
theorem dX6_init_147 : decode cX6_init 147 = .ok (.aload_n 0, 1) := by decide +kernel
theorem dX6_init_148 : decode cX6_init 148 = .ok (.sipush 192, 3) := by decide +kernel
theorem dX6_init_151 : decode cX6_init 151 = .ok (.newarray .int, 2) := by decide +kernel
theorem dX6_init_153 : decode cX6_init 153 = .ok (.putfield 64, 3) := by decide +kernel
theorem dX6_init_156 : decode cX6_init 156 = .ok (.aload_n 0, 1) := by decide +kernel
theorem dX6_init_157 : decode cX6_init 157 = .ok (.sipush 192, 3) := by decide +kernel
theorem dX6_init_160 : decode cX6_init 160 = .ok (.newarray .int, 2) := by decide +kernel
theorem dX6_init_162 : decode cX6_init 162 = .ok (.putfield 67, 3) := by decide +kernel
theorem dX6_init_165 : decode cX6_init 165 = .ok (.aload_n 0, 1) := by decide +kernel
theorem dX6_init_166 : decode cX6_init 166 = .ok (.sipush 192, 3) := by decide +kernel
theorem dX6_init_169 : decode cX6_init 169 = .ok (.newarray .int, 2) := by decide +kernel
theorem dX6_init_171 : decode cX6_init 171 = .ok (.putfield 70, 3) := by decide +kernel
theorem dX6_init_174 : decode cX6_init 174 = .ok (.aload_n 0, 1) := by decide +kernel
theorem dX6_init_175 : decode cX6_init 175 = .ok (.sipush 192, 3) := by decide +kernel
theorem dX6_init_178 : decode cX6_init 178 = .ok (.newarray .int, 2) := by decide +kernel
theorem dX6_init_180 : decode cX6_init 180 = .ok (.putfield 73, 3) := by decide +kernel
theorem dX6_init_183 : decode cX6_init 183 = .ok (.aload_n 0, 1) := by decide +kernel
theorem dX6_init_184 : decode cX6_init 184 = .ok (.sipush 192, 3) := by decide +kernel
theorem dX6_init_187 : decode cX6_init 187 = .ok (.newarray .int, 2) := by decide +kernel
theorem dX6_init_189 : decode cX6_init 189 = .ok (.putfield 76, 3) := by decide +kernel
theorem dX6_init_192 : decode cX6_init 192 = .ok (.aload_n 0, 1) := by decide +kernel
theorem dX6_init_193 : decode cX6_init 193 = .ok (.bipush 24, 2) := by decide +kernel
theorem dX6_init_195 : decode cX6_init 195 = .ok (.newarray .int, 2) := by decide +kernel
theorem dX6_init_197 : decode cX6_init 197 = .ok (.putfield 79, 3) := by decide +kernel
theorem dX6_init_200 : decode cX6_init 200 = .ok (.aload_n 0, 1) := by decide +kernel
theorem dX6_init_201 : decode cX6_init 201 = .ok (.bipush 24, 2) := by decide +kernel
theorem dX6_init_203 : decode cX6_init 203 = .ok (.newarray .int, 2) := by decide +kernel
theorem dX6_init_205 : decode cX6_init 205 = .ok (.putfield 82, 3) := by decide +kernel
theorem dX6_init_208 : decode cX6_init 208 = .ok (.aload_n 0, 1) := by decide +kernel
theorem dX6_init_209 : decode cX6_init 209 = .ok (.sipush 240, 3) := by decide +kernel
theorem dX6_init_212 : decode cX6_init 212 = .ok (.newarray .int, 2) := by decide +kernel
theorem dX6_init_214 : decode cX6_init 214 = .ok (.putfield 85, 3) := by decide +kernel
theorem dX6_init_217 : decode cX6_init 217 = .ok (.iconst 0, 1) := by decide +kernel
theorem dX6_init_218 : decode cX6_init 218 = .ok (.istore_n 1, 1) := by decide +kernel
theorem dX6_init_219 : decode cX6_init 219 = .ok (.iload_n 1, 1) := by decide +kernel
theorem dX6_init_220 : decode cX6_init 220 = .ok (.iconst 4, 1) := by decide +kernel
theorem dX6_init_221 : decode cX6_init 221 = .ok (.if_icmp .ge 16, 3) := by decide +kernel
theorem dX6_init_224 : decode cX6_init 224 = .ok (.aload_n 0, 1) := by decide +kernel
theorem dX6_init_225 : decode cX6_init 225 = .ok (.getfield 7, 3) := by decide +kernel
theorem dX6_init_228 : decode cX6_init 228 = .ok (.iload_n 1, 1) := by decide +kernel
theorem dX6_init_229 : decode cX6_init 229 = .ok (.iconst (-1), 1) := by decide +kernel
theorem dX6_init_230 : decode cX6_init 230 = .ok (.iastore, 1) := by decide +kernel
theorem dX6_init_231 : decode cX6_init 231 = .ok (.iinc 1 1, 3) := by decide +kernel
theorem dX6_init_234 : decode cX6_init 234 = .ok (.goto (-15), 3) := by decide +kernel
theorem dX6_init_237 : decode cX6_init 237 = .ok (.aload_n 0, 1) := by decide +kernel
theorem dX6_init_238 : decode cX6_init 238 = .ok (.iconst (-1), 1) := by decide +kernel
theorem dX6_init_239 : decode cX6_init 239 = .ok (.putfield 88, 3) := by decide +kernel
theorem dX6_init_242 : decode cX6_init 242 = .ok (.return_, 1) := by decide +kernel
theorem dX6_in_0 : decode cX6_in 0 = .ok (.lload_n 0, 1) := by decide +kernel
theorem dX6_in_1 : decode cX6_in 1 = .ok (.lload_n 2, 1) := by decide +kernel
theorem dX6_in_2 : decode cX6_in 2 = .ok (.lcmp, 1) := by decide +kernel
theorem dX6_in_3 : decode cX6_in 3 = .ok (.ifCond .lt 14, 3) := by decide +kernel
theorem dX6_in_6 : decode cX6_in 6 = .ok (.lload_n 0, 1) := by decide +kernel
theorem dX6_in_7 : decode cX6_in 7 = .ok (.lload 4, 2) := by decide +kernel
theorem dX6_in_9 : decode cX6_in 9 = .ok (.lcmp, 1) := by decide +kernel
theorem dX6_in_10 : decode cX6_in 10 = .ok (.ifCond .gt 7, 3) := by decide +kernel
theorem dX6_in_13 : decode cX6_in 13 = .ok (.iconst 1, 1) := by decide +kernel
theorem dX6_in_14 : decode cX6_in 14 = .ok (.goto 4, 3) := by decide +kernel
theorem dX6_in_17 : decode cX6_in 17 = .ok (.iconst 0, 1) := by decide +kernel
theorem dX6_in_18 : decode cX6_in 18 = .ok (.ireturn, 1) := by decide +kernel
theorem dX6_no_0 : decode cX6_no 0 = .ok (.ldc2_w 92, 3) := by decide +kernel
theorem dX6_no_3 : decode cX6_no 3 = .ok (.iload_n 0, 1) := by decide +kernel
theorem dX6_no_4 : decode cX6_no 4 = .ok (.i2l, 1) := by decide +kernel
theorem dX6_no_5 : decode cX6_no 5 = .ok (.lsub, 1) := by decide +kernel
theorem dX6_no_6 : decode cX6_no 6 = .ok (.lreturn, 1) := by decide +kernel
theorem dX6_isTwo_0 : decode cX6_isTwo 0 = .ok (.iload_n 0, 1) := by decide +kernel
theorem dX6_isTwo_1 : decode cX6_isTwo 1 = .ok (.i2l, 1) := by decide +kernel
theorem dX6_isTwo_2 : decode cX6_isTwo 2 = .ok (.lconst 0, 1) := by decide +kernel
theorem dX6_isTwo_3 : decode cX6_isTwo 3 = .ok (.lconst 1, 1) := by decide +kernel
theorem dX6_isTwo_4 : decode cX6_isTwo 4 = .ok (.invokestatic 94, 3) := by decide +kernel
theorem dX6_isTwo_7 : decode cX6_isTwo 7 = .ok (.ireturn, 1) := by decide +kernel
theorem dX6_isIn_0 : decode cX6_isIn 0 = .ok (.iload_n 0, 1) := by decide +kernel
theorem dX6_isIn_1 : decode cX6_isIn 1 = .ok (.iload_n 1, 1) := by decide +kernel
theorem dX6_isIn_2 : decode cX6_isIn 2 = .ok (.ishr, 1) := by decide +kernel
theorem dX6_isIn_3 : decode cX6_isIn 3 = .ok (.iconst 1, 1) := by decide +kernel
theorem dX6_isIn_4 : decode cX6_isIn 4 = .ok (.iand, 1) := by decide +kernel
theorem dX6_isIn_5 : decode cX6_isIn 5 = .ok (.iconst 1, 1) := by decide +kernel
theorem dX6_isIn_6 : decode cX6_isIn 6 = .ok (.if_icmp .ne 7, 3) := by decide +kernel
theorem dX6_isIn_9 : decode cX6_isIn 9 = .ok (.iconst 1, 1) := by decide +kernel
theorem dX6_isIn_10 : decode cX6_isIn 10 = .ok (.goto 4, 3) := by decide +kernel
theorem dX6_isIn_13 : decode cX6_isIn 13 = .ok (.iconst 0, 1) := by decide +kernel
theorem dX6_isIn_14 : decode cX6_isIn 14 = .ok (.ireturn, 1) := by decide +kernel
theorem dX6_ones_0 : decode cX6_ones 0 = .ok (.iconst 0, 1) := by decide +kernel
theorem dX6_ones_1 : decode cX6_ones 1 = .ok (.istore_n 1, 1) := by decide +kernel
theorem dX6_ones_2 : decode cX6_ones 2 = .ok (.iload_n 0, 1) := by decide +kernel
theorem dX6_ones_3 : decode cX6_ones 3 = .ok (.istore_n 2, 1) := by decide +kernel
theorem dX6_ones_4 : decode cX6_ones 4 = .ok (.iload_n 2, 1) := by decide +kernel
theorem dX6_ones_5 : decode cX6_ones 5 = .ok (.ifCond .eq 15, 3) := by decide +kernel
theorem dX6_ones_8 : decode cX6_ones 8 = .ok (.iinc 1 1, 3) := by decide +kernel
theorem dX6_ones_11 : decode cX6_ones 11 = .ok (.iload_n 2, 1) := by decide +kernel
theorem dX6_ones_12 : decode cX6_ones 12 = .ok (.iload_n 2, 1) := by decide +kernel
theorem dX6_ones_13 : decode cX6_ones 13 = .ok (.iconst 1, 1) := by decide +kernel
theorem dX6_ones_14 : decode cX6_ones 14 = .ok (.isub, 1) := by decide +kernel
theorem dX6_ones_15 : decode cX6_ones 15 = .ok (.iand, 1) := by decide +kernel
theorem dX6_ones_16 : decode cX6_ones 16 = .ok (.istore_n 2, 1) := by decide +kernel
theorem dX6_ones_17 : decode cX6_ones 17 = .ok (.goto (-13), 3) := by decide +kernel
theorem dX6_ones_20 : decode cX6_ones 20 = .ok (.iload_n 1, 1) := by decide +kernel
theorem dX6_ones_21 : decode cX6_ones 21 = .ok (.ireturn, 1) := by decide +kernel
theorem dX6_lesser_0 : decode cX6_lesser 0 = .ok (.iload_n 0, 1) := by decide +kernel
theorem dX6_lesser_1 : decode cX6_lesser 1 = .ok (.iload_n 1, 1) := by decide +kernel
theorem dX6_lesser_2 : decode cX6_lesser 2 = .ok (.if_icmp .ge 7, 3) := by decide +kernel
theorem dX6_lesser_5 : decode cX6_lesser 5 = .ok (.iload_n 0, 1) := by decide +kernel
theorem dX6_lesser_6 : decode cX6_lesser 6 = .ok (.goto 4, 3) := by decide +kernel
theorem dX6_lesser_9 : decode cX6_lesser 9 = .ok (.iload_n 1, 1) := by decide +kernel
theorem dX6_lesser_10 : decode cX6_lesser 10 = .ok (.ireturn, 1) := by decide +kernel
theorem dX6_greater_0 : decode cX6_greater 0 = .ok (.iload_n 0, 1) := by decide +kernel
theorem dX6_greater_1 : decode cX6_greater 1 = .ok (.iload_n 1, 1) := by decide +kernel
theorem dX6_greater_2 : decode cX6_greater 2 = .ok (.if_icmp .le 7, 3) := by decide +kernel
theorem dX6_greater_5 : decode cX6_greater 5 = .ok (.iload_n 0, 1) := by decide +kernel
theorem dX6_greater_6 : decode cX6_greater 6 = .ok (.goto 4, 3) := by decide +kernel
theorem dX6_greater_9 : decode cX6_greater 9 = .ok (.iload_n 1, 1) := by decide +kernel
theorem dX6_greater_10 : decode cX6_greater 10 = .ok (.ireturn, 1) := by decide +kernel
theorem dX6_part_0 : decode cX6_part 0 = .ok (.lload_n 0, 1) := by decide +kernel
theorem dX6_part_1 : decode cX6_part 1 = .ok (.lstore 5, 2) := by decide +kernel
theorem dX6_part_3 : decode cX6_part 3 = .ok (.lload_n 2, 1) := by decide +kernel
theorem dX6_part_4 : decode cX6_part 4 = .ok (.lstore 7, 2) := by decide +kernel
theorem dX6_part_6 : decode cX6_part 6 = .ok (.lload 7, 2) := by decide +kernel
theorem dX6_part_8 : decode cX6_part 8 = .ok (.lconst 0, 1) := by decide +kernel
theorem dX6_part_9 : decode cX6_part 9 = .ok (.lcmp, 1) := by decide +kernel
theorem dX6_part_10 : decode cX6_part 10 = .ok (.ifCond .eq 21, 3) := by decide +kernel
theorem dX6_part_13 : decode cX6_part 13 = .ok (.lload 5, 2) := by decide +kernel
theorem dX6_part_15 : decode cX6_part 15 = .ok (.lload 7, 2) := by decide +kernel
theorem dX6_part_17 : decode cX6_part 17 = .ok (.lrem, 1) := by decide +kernel
theorem dX6_part_18 : decode cX6_part 18 = .ok (.lstore 9, 2) := by decide +kernel
theorem dX6_part_20 : decode cX6_part 20 = .ok (.lload 7, 2) := by decide +kernel
theorem dX6_part_22 : decode cX6_part 22 = .ok (.lstore 5, 2) := by decide +kernel
theorem dX6_part_24 : decode cX6_part 24 = .ok (.lload 9, 2) := by decide +kernel
theorem dX6_part_26 : decode cX6_part 26 = .ok (.lstore 7, 2) := by decide +kernel
theorem dX6_part_28 : decode cX6_part 28 = .ok (.goto (-22), 3) := by decide +kernel
theorem dX6_part_31 : decode cX6_part 31 = .ok (.iload 4, 2) := by decide +kernel
theorem dX6_part_33 : decode cX6_part 33 = .ok (.ifCond .ne 7, 3) := by decide +kernel
theorem dX6_part_36 : decode cX6_part 36 = .ok (.lload_n 0, 1) := by decide +kernel
theorem dX6_part_37 : decode cX6_part 37 = .ok (.goto 4, 3) := by decide +kernel
theorem dX6_part_40 : decode cX6_part 40 = .ok (.lload_n 2, 1) := by decide +kernel
theorem dX6_part_41 : decode cX6_part 41 = .ok (.lload 5, 2) := by decide +kernel
theorem dX6_part_43 : decode cX6_part 43 = .ok (.ldiv, 1) := by decide +kernel
theorem dX6_part_44 : decode cX6_part 44 = .ok (.lreturn, 1) := by decide +kernel
theorem dX6_finds_0 : decode cX6_finds 0 = .ok (.aload_n 0, 1) := by decide +kernel
theorem dX6_finds_1 : decode cX6_finds 1 = .ok (.iload_n 1, 1) := by decide +kernel
theorem dX6_finds_2 : decode cX6_finds 2 = .ok (.putfield 98, 3) := by decide +kernel
theorem dX6_finds_5 : decode cX6_finds 5 = .ok (.bipush (-10), 2) := by decide +kernel
theorem dX6_finds_7 : decode cX6_finds 7 = .ok (.iload_n 1, 1) := by decide +kernel
theorem dX6_finds_8 : decode cX6_finds 8 = .ok (.isub, 1) := by decide +kernel
theorem dX6_finds_9 : decode cX6_finds 9 = .ok (.ireturn, 1) := by decide +kernel
theorem dX6_isSheet_0 : decode cX6_isSheet 0 = .ok (.iload_n 0, 1) := by decide +kernel
theorem dX6_isSheet_1 : decode cX6_isSheet 1 = .ok (.i2l, 1) := by decide +kernel
theorem dX6_isSheet_2 : decode cX6_isSheet 2 = .ok (.lconst 0, 1) := by decide +kernel
theorem dX6_isSheet_3 : decode cX6_isSheet 3 = .ok (.ldc2_w 101, 3) := by decide +kernel
theorem dX6_isSheet_6 : decode cX6_isSheet 6 = .ok (.invokestatic 94, 3) := by decide +kernel
theorem dX6_isSheet_9 : decode cX6_isSheet 9 = .ok (.ireturn, 1) := by decide +kernel
theorem dX6_sheet_0 : decode cX6_sheet 0 = .ok (.iload_n 1, 1) := by decide +kernel
theorem dX6_sheet_1 : decode cX6_sheet 1 = .ok (.invokestatic 103, 3) := by decide +kernel
theorem dX6_sheet_4 : decode cX6_sheet 4 = .ok (.ifCond .eq 21, 3) := by decide +kernel
theorem dX6_sheet_7 : decode cX6_sheet 7 = .ok (.iload_n 2, 1) := by decide +kernel
theorem dX6_sheet_8 : decode cX6_sheet 8 = .ok (.i2l, 1) := by decide +kernel
theorem dX6_sheet_9 : decode cX6_sheet 9 = .ok (.lconst 0, 1) := by decide +kernel
theorem dX6_sheet_10 : decode cX6_sheet 10 = .ok (.ldc2_w 107, 3) := by decide +kernel
theorem dX6_sheet_13 : decode cX6_sheet 13 = .ok (.invokestatic 94, 3) := by decide +kernel
theorem dX6_sheet_16 : decode cX6_sheet 16 = .ok (.ifCond .eq 9, 3) := by decide +kernel
theorem dX6_sheet_19 : decode cX6_sheet 19 = .ok (.iload_n 3, 1) := by decide +kernel
theorem dX6_sheet_20 : decode cX6_sheet 20 = .ok (.bipush 60, 2) := by decide +kernel
theorem dX6_sheet_22 : decode cX6_sheet 22 = .ok (.if_icmp .le 6, 3) := by decide +kernel
theorem dX6_sheet_25 : decode cX6_sheet 25 = .ok (.bipush (-2), 2) := by decide +kernel
theorem dX6_sheet_27 : decode cX6_sheet 27 = .ok (.ireturn, 1) := by decide +kernel
theorem dX6_sheet_28 : decode cX6_sheet 28 = .ok (.iload_n 3, 1) := by decide +kernel
theorem dX6_sheet_29 : decode cX6_sheet 29 = .ok (.ifCond .ge 9, 3) := by decide +kernel
theorem dX6_sheet_32 : decode cX6_sheet 32 = .ok (.aload_n 0, 1) := by decide +kernel
theorem dX6_sheet_33 : decode cX6_sheet 33 = .ok (.iconst 5, 1) := by decide +kernel
theorem dX6_sheet_34 : decode cX6_sheet 34 = .ok (.invokevirtual 109, 3) := by decide +kernel
theorem dX6_sheet_37 : decode cX6_sheet 37 = .ok (.ireturn, 1) := by decide +kernel
theorem dX6_sheet_38 : decode cX6_sheet 38 = .ok (.aload_n 0, 1) := by decide +kernel
theorem dX6_sheet_39 : decode cX6_sheet 39 = .ok (.getfield 7, 3) := by decide +kernel
theorem dX6_sheet_42 : decode cX6_sheet 42 = .ok (.iload_n 1, 1) := by decide +kernel
theorem dX6_sheet_43 : decode cX6_sheet 43 = .ok (.iload_n 2, 1) := by decide +kernel
theorem dX6_sheet_44 : decode cX6_sheet 44 = .ok (.iastore, 1) := by decide +kernel
theorem dX6_sheet_45 : decode cX6_sheet 45 = .ok (.aload_n 0, 1) := by decide +kernel
theorem dX6_sheet_46 : decode cX6_sheet 46 = .ok (.getfield 13, 3) := by decide +kernel
theorem dX6_sheet_49 : decode cX6_sheet 49 = .ok (.iload_n 1, 1) := by decide +kernel
theorem dX6_sheet_50 : decode cX6_sheet 50 = .ok (.iload_n 3, 1) := by decide +kernel
theorem dX6_sheet_51 : decode cX6_sheet 51 = .ok (.iastore, 1) := by decide +kernel
theorem dX6_sheet_52 : decode cX6_sheet 52 = .ok (.iconst 0, 1) := by decide +kernel
theorem dX6_sheet_53 : decode cX6_sheet 53 = .ok (.istore 4, 2) := by decide +kernel
theorem dX6_sheet_55 : decode cX6_sheet 55 = .ok (.iload 4, 2) := by decide +kernel
theorem dX6_sheet_57 : decode cX6_sheet 57 = .ok (.iload_n 3, 1) := by decide +kernel
theorem dX6_sheet_58 : decode cX6_sheet 58 = .ok (.if_icmp .ge 22, 3) := by decide +kernel
theorem dX6_sheet_61 : decode cX6_sheet 61 = .ok (.aload_n 0, 1) := by decide +kernel
theorem dX6_sheet_62 : decode cX6_sheet 62 = .ok (.getfield 16, 3) := by decide +kernel
theorem dX6_sheet_65 : decode cX6_sheet 65 = .ok (.bipush 60, 2) := by decide +kernel
theorem dX6_sheet_67 : decode cX6_sheet 67 = .ok (.iload_n 1, 1) := by decide +kernel
theorem dX6_sheet_68 : decode cX6_sheet 68 = .ok (.imul, 1) := by decide +kernel
theorem dX6_sheet_69 : decode cX6_sheet 69 = .ok (.iload 4, 2) := by decide +kernel
theorem dX6_sheet_71 : decode cX6_sheet 71 = .ok (.iadd, 1) := by decide +kernel
theorem dX6_sheet_72 : decode cX6_sheet 72 = .ok (.iconst 0, 1) := by decide +kernel
theorem dX6_sheet_73 : decode cX6_sheet 73 = .ok (.iastore, 1) := by decide +kernel
theorem dX6_sheet_74 : decode cX6_sheet 74 = .ok (.iinc 4 1, 3) := by decide +kernel
theorem dX6_sheet_77 : decode cX6_sheet 77 = .ok (.goto (-22), 3) := by decide +kernel
theorem dX6_sheet_80 : decode cX6_sheet 80 = .ok (.iload_n 3, 1) := by decide +kernel
theorem dX6_sheet_81 : decode cX6_sheet 81 = .ok (.ireturn, 1) := by decide +kernel
theorem dX6_lose_0 : decode cX6_lose 0 = .ok (.iload_n 1, 1) := by decide +kernel
theorem dX6_lose_1 : decode cX6_lose 1 = .ok (.invokestatic 103, 3) := by decide +kernel
theorem dX6_lose_4 : decode cX6_lose 4 = .ok (.ifCond .ne 6, 3) := by decide +kernel
theorem dX6_lose_7 : decode cX6_lose 7 = .ok (.bipush (-2), 2) := by decide +kernel
theorem dX6_lose_9 : decode cX6_lose 9 = .ok (.ireturn, 1) := by decide +kernel
theorem dX6_lose_10 : decode cX6_lose 10 = .ok (.aload_n 0, 1) := by decide +kernel
theorem dX6_lose_11 : decode cX6_lose 11 = .ok (.getfield 7, 3) := by decide +kernel
theorem dX6_lose_14 : decode cX6_lose 14 = .ok (.iload_n 1, 1) := by decide +kernel
theorem dX6_lose_15 : decode cX6_lose 15 = .ok (.iaload, 1) := by decide +kernel
theorem dX6_lose_16 : decode cX6_lose 16 = .ok (.ifCond .ge 9, 3) := by decide +kernel
theorem dX6_lose_19 : decode cX6_lose 19 = .ok (.aload_n 0, 1) := by decide +kernel
theorem dX6_lose_20 : decode cX6_lose 20 = .ok (.iconst 1, 1) := by decide +kernel
theorem dX6_lose_21 : decode cX6_lose 21 = .ok (.invokevirtual 109, 3) := by decide +kernel
theorem dX6_lose_24 : decode cX6_lose 24 = .ok (.ireturn, 1) := by decide +kernel
theorem dX6_lose_25 : decode cX6_lose 25 = .ok (.aload_n 0, 1) := by decide +kernel
theorem dX6_lose_26 : decode cX6_lose 26 = .ok (.getfield 7, 3) := by decide +kernel
theorem dX6_lose_29 : decode cX6_lose 29 = .ok (.iload_n 1, 1) := by decide +kernel
theorem dX6_lose_30 : decode cX6_lose 30 = .ok (.iconst (-1), 1) := by decide +kernel
theorem dX6_lose_31 : decode cX6_lose 31 = .ok (.iastore, 1) := by decide +kernel
theorem dX6_lose_32 : decode cX6_lose 32 = .ok (.aload_n 0, 1) := by decide +kernel
theorem dX6_lose_33 : decode cX6_lose 33 = .ok (.getfield 13, 3) := by decide +kernel
theorem dX6_lose_36 : decode cX6_lose 36 = .ok (.iload_n 1, 1) := by decide +kernel
theorem dX6_lose_37 : decode cX6_lose 37 = .ok (.iaload, 1) := by decide +kernel
theorem dX6_lose_38 : decode cX6_lose 38 = .ok (.ireturn, 1) := by decide +kernel
theorem dX6_lacks_0 : decode cX6_lacks 0 = .ok (.aload_n 0, 1) := by decide +kernel
theorem dX6_lacks_1 : decode cX6_lacks 1 = .ok (.getfield 7, 3) := by decide +kernel
theorem dX6_lacks_4 : decode cX6_lacks 4 = .ok (.iload_n 1, 1) := by decide +kernel
theorem dX6_lacks_5 : decode cX6_lacks 5 = .ok (.iaload, 1) := by decide +kernel
theorem dX6_lacks_6 : decode cX6_lacks 6 = .ok (.ifCond .ge 9, 3) := by decide +kernel
theorem dX6_lacks_9 : decode cX6_lacks 9 = .ok (.aload_n 0, 1) := by decide +kernel
theorem dX6_lacks_10 : decode cX6_lacks 10 = .ok (.iconst 1, 1) := by decide +kernel
theorem dX6_lacks_11 : decode cX6_lacks 11 = .ok (.invokevirtual 109, 3) := by decide +kernel
theorem dX6_lacks_14 : decode cX6_lacks 14 = .ok (.ireturn, 1) := by decide +kernel
theorem dX6_lacks_15 : decode cX6_lacks 15 = .ok (.aload_n 0, 1) := by decide +kernel
theorem dX6_lacks_16 : decode cX6_lacks 16 = .ok (.getfield 7, 3) := by decide +kernel
theorem dX6_lacks_19 : decode cX6_lacks 19 = .ok (.iload_n 1, 1) := by decide +kernel
theorem dX6_lacks_20 : decode cX6_lacks 20 = .ok (.iaload, 1) := by decide +kernel
theorem dX6_lacks_21 : decode cX6_lacks 21 = .ok (.iload_n 2, 1) := by decide +kernel
theorem dX6_lacks_22 : decode cX6_lacks 22 = .ok (.if_icmp .eq 9, 3) := by decide +kernel
theorem dX6_lacks_25 : decode cX6_lacks 25 = .ok (.aload_n 0, 1) := by decide +kernel
theorem dX6_lacks_26 : decode cX6_lacks 26 = .ok (.iconst 3, 1) := by decide +kernel
theorem dX6_lacks_27 : decode cX6_lacks 27 = .ok (.invokevirtual 109, 3) := by decide +kernel
theorem dX6_lacks_30 : decode cX6_lacks 30 = .ok (.ireturn, 1) := by decide +kernel
theorem dX6_lacks_31 : decode cX6_lacks 31 = .ok (.iload_n 3, 1) := by decide +kernel
theorem dX6_lacks_32 : decode cX6_lacks 32 = .ok (.i2l, 1) := by decide +kernel
theorem dX6_lacks_33 : decode cX6_lacks 33 = .ok (.lconst 0, 1) := by decide +kernel
theorem dX6_lacks_34 : decode cX6_lacks 34 = .ok (.aload_n 0, 1) := by decide +kernel
theorem dX6_lacks_35 : decode cX6_lacks 35 = .ok (.getfield 13, 3) := by decide +kernel
theorem dX6_lacks_38 : decode cX6_lacks 38 = .ok (.iload_n 1, 1) := by decide +kernel
theorem dX6_lacks_39 : decode cX6_lacks 39 = .ok (.iaload, 1) := by decide +kernel
theorem dX6_lacks_40 : decode cX6_lacks 40 = .ok (.iconst 1, 1) := by decide +kernel
theorem dX6_lacks_41 : decode cX6_lacks 41 = .ok (.isub, 1) := by decide +kernel
theorem dX6_lacks_42 : decode cX6_lacks 42 = .ok (.i2l, 1) := by decide +kernel
theorem dX6_lacks_43 : decode cX6_lacks 43 = .ok (.invokestatic 94, 3) := by decide +kernel
theorem dX6_lacks_46 : decode cX6_lacks 46 = .ok (.ifCond .eq 7, 3) := by decide +kernel
theorem dX6_lacks_49 : decode cX6_lacks 49 = .ok (.iconst 0, 1) := by decide +kernel
theorem dX6_lacks_50 : decode cX6_lacks 50 = .ok (.goto 8, 3) := by decide +kernel
theorem dX6_lacks_53 : decode cX6_lacks 53 = .ok (.aload_n 0, 1) := by decide +kernel
theorem dX6_lacks_54 : decode cX6_lacks 54 = .ok (.iconst 2, 1) := by decide +kernel
theorem dX6_lacks_55 : decode cX6_lacks 55 = .ok (.invokevirtual 109, 3) := by decide +kernel
theorem dX6_lacks_58 : decode cX6_lacks 58 = .ok (.ireturn, 1) := by decide +kernel
theorem dX6_cut_0 : decode cX6_cut 0 = .ok (.iload_n 0, 1) := by decide +kernel
theorem dX6_cut_1 : decode cX6_cut 1 = .ok (.ifCond .ne 8, 3) := by decide +kernel
theorem dX6_cut_4 : decode cX6_cut 4 = .ok (.iload_n 1, 1) := by decide +kernel
theorem dX6_cut_5 : decode cX6_cut 5 = .ok (.i2b, 1) := by decide +kernel
theorem dX6_cut_6 : decode cX6_cut 6 = .ok (.goto 14, 3) := by decide +kernel
theorem dX6_cut_9 : decode cX6_cut 9 = .ok (.iload_n 0, 1) := by decide +kernel
theorem dX6_cut_10 : decode cX6_cut 10 = .ok (.iconst 1, 1) := by decide +kernel
theorem dX6_cut_11 : decode cX6_cut 11 = .ok (.if_icmp .ne 8, 3) := by decide +kernel
theorem dX6_cut_14 : decode cX6_cut 14 = .ok (.iload_n 1, 1) := by decide +kernel
theorem dX6_cut_15 : decode cX6_cut 15 = .ok (.i2s, 1) := by decide +kernel
theorem dX6_cut_16 : decode cX6_cut 16 = .ok (.goto 4, 3) := by decide +kernel
theorem dX6_cut_19 : decode cX6_cut 19 = .ok (.iload_n 1, 1) := by decide +kernel
theorem dX6_cut_20 : decode cX6_cut 20 = .ok (.ireturn, 1) := by decide +kernel
theorem dX6_lay_0 : decode cX6_lay 0 = .ok (.iload_n 1, 1) := by decide +kernel
theorem dX6_lay_1 : decode cX6_lay 1 = .ok (.invokestatic 103, 3) := by decide +kernel
theorem dX6_lay_4 : decode cX6_lay 4 = .ok (.ifCond .eq 15, 3) := by decide +kernel
theorem dX6_lay_7 : decode cX6_lay 7 = .ok (.iload_n 2, 1) := by decide +kernel
theorem dX6_lay_8 : decode cX6_lay 8 = .ok (.i2l, 1) := by decide +kernel
theorem dX6_lay_9 : decode cX6_lay 9 = .ok (.lconst 0, 1) := by decide +kernel
theorem dX6_lay_10 : decode cX6_lay 10 = .ok (.ldc2_w 107, 3) := by decide +kernel
theorem dX6_lay_13 : decode cX6_lay 13 = .ok (.invokestatic 94, 3) := by decide +kernel
theorem dX6_lay_16 : decode cX6_lay 16 = .ok (.ifCond .ne 6, 3) := by decide +kernel
theorem dX6_lay_19 : decode cX6_lay 19 = .ok (.bipush (-2), 2) := by decide +kernel
theorem dX6_lay_21 : decode cX6_lay 21 = .ok (.ireturn, 1) := by decide +kernel
theorem dX6_lay_22 : decode cX6_lay 22 = .ok (.aload_n 0, 1) := by decide +kernel
theorem dX6_lay_23 : decode cX6_lay 23 = .ok (.iload_n 1, 1) := by decide +kernel
theorem dX6_lay_24 : decode cX6_lay 24 = .ok (.iload_n 2, 1) := by decide +kernel
theorem dX6_lay_25 : decode cX6_lay 25 = .ok (.iload_n 3, 1) := by decide +kernel
theorem dX6_lay_26 : decode cX6_lay 26 = .ok (.invokevirtual 113, 3) := by decide +kernel
theorem dX6_lay_29 : decode cX6_lay 29 = .ok (.istore 5, 2) := by decide +kernel
theorem dX6_lay_31 : decode cX6_lay 31 = .ok (.iload 5, 2) := by decide +kernel
theorem dX6_lay_33 : decode cX6_lay 33 = .ok (.ifCond .eq 6, 3) := by decide +kernel
theorem dX6_lay_36 : decode cX6_lay 36 = .ok (.iload 5, 2) := by decide +kernel
theorem dX6_lay_38 : decode cX6_lay 38 = .ok (.ireturn, 1) := by decide +kernel
theorem dX6_lay_39 : decode cX6_lay 39 = .ok (.aload_n 0, 1) := by decide +kernel
theorem dX6_lay_40 : decode cX6_lay 40 = .ok (.getfield 16, 3) := by decide +kernel
theorem dX6_lay_43 : decode cX6_lay 43 = .ok (.bipush 60, 2) := by decide +kernel
theorem dX6_lay_45 : decode cX6_lay 45 = .ok (.iload_n 1, 1) := by decide +kernel
theorem dX6_lay_46 : decode cX6_lay 46 = .ok (.imul, 1) := by decide +kernel
theorem dX6_lay_47 : decode cX6_lay 47 = .ok (.iload_n 3, 1) := by decide +kernel
theorem dX6_lay_48 : decode cX6_lay 48 = .ok (.iadd, 1) := by decide +kernel
theorem dX6_lay_49 : decode cX6_lay 49 = .ok (.iload_n 2, 1) := by decide +kernel
theorem dX6_lay_50 : decode cX6_lay 50 = .ok (.iload 4, 2) := by decide +kernel
theorem dX6_lay_52 : decode cX6_lay 52 = .ok (.invokestatic 117, 3) := by decide +kernel
theorem dX6_lay_55 : decode cX6_lay 55 = .ok (.iastore, 1) := by decide +kernel
theorem dX6_lay_56 : decode cX6_lay 56 = .ok (.iconst 1, 1) := by decide +kernel
theorem dX6_lay_57 : decode cX6_lay 57 = .ok (.ireturn, 1) := by decide +kernel
theorem dX6_get_0 : decode cX6_get 0 = .ok (.iload_n 1, 1) := by decide +kernel
theorem dX6_get_1 : decode cX6_get 1 = .ok (.invokestatic 103, 3) := by decide +kernel
theorem dX6_get_4 : decode cX6_get 4 = .ok (.ifCond .eq 25, 3) := by decide +kernel
theorem dX6_get_7 : decode cX6_get 7 = .ok (.iload_n 2, 1) := by decide +kernel
theorem dX6_get_8 : decode cX6_get 8 = .ok (.i2l, 1) := by decide +kernel
theorem dX6_get_9 : decode cX6_get 9 = .ok (.lconst 0, 1) := by decide +kernel
theorem dX6_get_10 : decode cX6_get 10 = .ok (.ldc2_w 107, 3) := by decide +kernel
theorem dX6_get_13 : decode cX6_get 13 = .ok (.invokestatic 94, 3) := by decide +kernel
theorem dX6_get_16 : decode cX6_get 16 = .ok (.ifCond .eq 13, 3) := by decide +kernel
theorem dX6_get_19 : decode cX6_get 19 = .ok (.aload_n 0, 1) := by decide +kernel
theorem dX6_get_20 : decode cX6_get 20 = .ok (.iload_n 1, 1) := by decide +kernel
theorem dX6_get_21 : decode cX6_get 21 = .ok (.iload_n 2, 1) := by decide +kernel
theorem dX6_get_22 : decode cX6_get 22 = .ok (.iload_n 3, 1) := by decide +kernel
theorem dX6_get_23 : decode cX6_get 23 = .ok (.invokevirtual 113, 3) := by decide +kernel
theorem dX6_get_26 : decode cX6_get 26 = .ok (.ifCond .eq 6, 3) := by decide +kernel
theorem dX6_get_29 : decode cX6_get 29 = .ok (.ldc 121, 2) := by decide +kernel
theorem dX6_get_31 : decode cX6_get 31 = .ok (.ireturn, 1) := by decide +kernel
theorem dX6_get_32 : decode cX6_get 32 = .ok (.aload_n 0, 1) := by decide +kernel
theorem dX6_get_33 : decode cX6_get 33 = .ok (.getfield 16, 3) := by decide +kernel
theorem dX6_get_36 : decode cX6_get 36 = .ok (.bipush 60, 2) := by decide +kernel
theorem dX6_get_38 : decode cX6_get 38 = .ok (.iload_n 1, 1) := by decide +kernel
theorem dX6_get_39 : decode cX6_get 39 = .ok (.imul, 1) := by decide +kernel
theorem dX6_get_40 : decode cX6_get 40 = .ok (.iload_n 3, 1) := by decide +kernel
theorem dX6_get_41 : decode cX6_get 41 = .ok (.iadd, 1) := by decide +kernel
theorem dX6_get_42 : decode cX6_get 42 = .ok (.iaload, 1) := by decide +kernel
theorem dX6_get_43 : decode cX6_get 43 = .ok (.ireturn, 1) := by decide +kernel
theorem dX6_copy_0 : decode cX6_copy 0 = .ok (.iload_n 1, 1) := by decide +kernel
theorem dX6_copy_1 : decode cX6_copy 1 = .ok (.invokestatic 103, 3) := by decide +kernel
theorem dX6_copy_4 : decode cX6_copy 4 = .ok (.ifCond .eq 10, 3) := by decide +kernel
theorem dX6_copy_7 : decode cX6_copy 7 = .ok (.iload_n 3, 1) := by decide +kernel
theorem dX6_copy_8 : decode cX6_copy 8 = .ok (.invokestatic 103, 3) := by decide +kernel
theorem dX6_copy_11 : decode cX6_copy 11 = .ok (.ifCond .ne 6, 3) := by decide +kernel
theorem dX6_copy_14 : decode cX6_copy 14 = .ok (.bipush (-2), 2) := by decide +kernel
theorem dX6_copy_16 : decode cX6_copy 16 = .ok (.ireturn, 1) := by decide +kernel
theorem dX6_copy_17 : decode cX6_copy 17 = .ok (.aload_n 0, 1) := by decide +kernel
theorem dX6_copy_18 : decode cX6_copy 18 = .ok (.getfield 7, 3) := by decide +kernel
theorem dX6_copy_21 : decode cX6_copy 21 = .ok (.iload_n 1, 1) := by decide +kernel
theorem dX6_copy_22 : decode cX6_copy 22 = .ok (.iaload, 1) := by decide +kernel
theorem dX6_copy_23 : decode cX6_copy 23 = .ok (.ifCond .lt 12, 3) := by decide +kernel
theorem dX6_copy_26 : decode cX6_copy 26 = .ok (.aload_n 0, 1) := by decide +kernel
theorem dX6_copy_27 : decode cX6_copy 27 = .ok (.getfield 7, 3) := by decide +kernel
theorem dX6_copy_30 : decode cX6_copy 30 = .ok (.iload_n 3, 1) := by decide +kernel
theorem dX6_copy_31 : decode cX6_copy 31 = .ok (.iaload, 1) := by decide +kernel
theorem dX6_copy_32 : decode cX6_copy 32 = .ok (.ifCond .ge 9, 3) := by decide +kernel
theorem dX6_copy_35 : decode cX6_copy 35 = .ok (.aload_n 0, 1) := by decide +kernel
theorem dX6_copy_36 : decode cX6_copy 36 = .ok (.iconst 1, 1) := by decide +kernel
theorem dX6_copy_37 : decode cX6_copy 37 = .ok (.invokevirtual 109, 3) := by decide +kernel
theorem dX6_copy_40 : decode cX6_copy 40 = .ok (.ireturn, 1) := by decide +kernel
theorem dX6_copy_41 : decode cX6_copy 41 = .ok (.aload_n 0, 1) := by decide +kernel
theorem dX6_copy_42 : decode cX6_copy 42 = .ok (.getfield 7, 3) := by decide +kernel
theorem dX6_copy_45 : decode cX6_copy 45 = .ok (.iload_n 1, 1) := by decide +kernel
theorem dX6_copy_46 : decode cX6_copy 46 = .ok (.iaload, 1) := by decide +kernel
theorem dX6_copy_47 : decode cX6_copy 47 = .ok (.aload_n 0, 1) := by decide +kernel
theorem dX6_copy_48 : decode cX6_copy 48 = .ok (.getfield 7, 3) := by decide +kernel
theorem dX6_copy_51 : decode cX6_copy 51 = .ok (.iload_n 3, 1) := by decide +kernel
theorem dX6_copy_52 : decode cX6_copy 52 = .ok (.iaload, 1) := by decide +kernel
theorem dX6_copy_53 : decode cX6_copy 53 = .ok (.if_icmp .eq 9, 3) := by decide +kernel
theorem dX6_copy_56 : decode cX6_copy 56 = .ok (.aload_n 0, 1) := by decide +kernel
theorem dX6_copy_57 : decode cX6_copy 57 = .ok (.iconst 4, 1) := by decide +kernel
theorem dX6_copy_58 : decode cX6_copy 58 = .ok (.invokevirtual 109, 3) := by decide +kernel
theorem dX6_copy_61 : decode cX6_copy 61 = .ok (.ireturn, 1) := by decide +kernel
theorem dX6_copy_62 : decode cX6_copy 62 = .ok (.iload_n 2, 1) := by decide +kernel
theorem dX6_copy_63 : decode cX6_copy 63 = .ok (.ifCond .lt 48, 3) := by decide +kernel
theorem dX6_copy_66 : decode cX6_copy 66 = .ok (.iload 4, 2) := by decide +kernel
theorem dX6_copy_68 : decode cX6_copy 68 = .ok (.ifCond .lt 43, 3) := by decide +kernel
theorem dX6_copy_71 : decode cX6_copy 71 = .ok (.iload 5, 2) := by decide +kernel
theorem dX6_copy_73 : decode cX6_copy 73 = .ok (.ifCond .lt 38, 3) := by decide +kernel
theorem dX6_copy_76 : decode cX6_copy 76 = .ok (.iload_n 2, 1) := by decide +kernel
theorem dX6_copy_77 : decode cX6_copy 77 = .ok (.i2l, 1) := by decide +kernel
theorem dX6_copy_78 : decode cX6_copy 78 = .ok (.iload 5, 2) := by decide +kernel
theorem dX6_copy_80 : decode cX6_copy 80 = .ok (.i2l, 1) := by decide +kernel
theorem dX6_copy_81 : decode cX6_copy 81 = .ok (.ladd, 1) := by decide +kernel
theorem dX6_copy_82 : decode cX6_copy 82 = .ok (.aload_n 0, 1) := by decide +kernel
theorem dX6_copy_83 : decode cX6_copy 83 = .ok (.getfield 13, 3) := by decide +kernel
theorem dX6_copy_86 : decode cX6_copy 86 = .ok (.iload_n 1, 1) := by decide +kernel
theorem dX6_copy_87 : decode cX6_copy 87 = .ok (.iaload, 1) := by decide +kernel
theorem dX6_copy_88 : decode cX6_copy 88 = .ok (.i2l, 1) := by decide +kernel
theorem dX6_copy_89 : decode cX6_copy 89 = .ok (.lcmp, 1) := by decide +kernel
theorem dX6_copy_90 : decode cX6_copy 90 = .ok (.ifCond .gt 21, 3) := by decide +kernel
theorem dX6_copy_93 : decode cX6_copy 93 = .ok (.iload 4, 2) := by decide +kernel
theorem dX6_copy_95 : decode cX6_copy 95 = .ok (.i2l, 1) := by decide +kernel
theorem dX6_copy_96 : decode cX6_copy 96 = .ok (.iload 5, 2) := by decide +kernel
theorem dX6_copy_98 : decode cX6_copy 98 = .ok (.i2l, 1) := by decide +kernel
theorem dX6_copy_99 : decode cX6_copy 99 = .ok (.ladd, 1) := by decide +kernel
theorem dX6_copy_100 : decode cX6_copy 100 = .ok (.aload_n 0, 1) := by decide +kernel
theorem dX6_copy_101 : decode cX6_copy 101 = .ok (.getfield 13, 3) := by decide +kernel
theorem dX6_copy_104 : decode cX6_copy 104 = .ok (.iload_n 3, 1) := by decide +kernel
theorem dX6_copy_105 : decode cX6_copy 105 = .ok (.iaload, 1) := by decide +kernel
theorem dX6_copy_106 : decode cX6_copy 106 = .ok (.i2l, 1) := by decide +kernel
theorem dX6_copy_107 : decode cX6_copy 107 = .ok (.lcmp, 1) := by decide +kernel
theorem dX6_copy_108 : decode cX6_copy 108 = .ok (.ifCond .le 9, 3) := by decide +kernel
theorem dX6_copy_111 : decode cX6_copy 111 = .ok (.aload_n 0, 1) := by decide +kernel
theorem dX6_copy_112 : decode cX6_copy 112 = .ok (.iconst 2, 1) := by decide +kernel
theorem dX6_copy_113 : decode cX6_copy 113 = .ok (.invokevirtual 109, 3) := by decide +kernel
theorem dX6_copy_116 : decode cX6_copy 116 = .ok (.ireturn, 1) := by decide +kernel
theorem dX6_copy_117 : decode cX6_copy 117 = .ok (.iconst 0, 1) := by decide +kernel
theorem dX6_copy_118 : decode cX6_copy 118 = .ok (.istore 6, 2) := by decide +kernel
theorem dX6_copy_120 : decode cX6_copy 120 = .ok (.iload 6, 2) := by decide +kernel
theorem dX6_copy_122 : decode cX6_copy 122 = .ok (.iload 5, 2) := by decide +kernel
theorem dX6_copy_124 : decode cX6_copy 124 = .ok (.if_icmp .ge 30, 3) := by decide +kernel
theorem dX6_copy_127 : decode cX6_copy 127 = .ok (.aload_n 0, 1) := by decide +kernel
theorem dX6_copy_128 : decode cX6_copy 128 = .ok (.getfield 19, 3) := by decide +kernel
theorem dX6_copy_131 : decode cX6_copy 131 = .ok (.iload 6, 2) := by decide +kernel
theorem dX6_copy_133 : decode cX6_copy 133 = .ok (.aload_n 0, 1) := by decide +kernel
theorem dX6_copy_134 : decode cX6_copy 134 = .ok (.getfield 16, 3) := by decide +kernel
theorem dX6_copy_137 : decode cX6_copy 137 = .ok (.bipush 60, 2) := by decide +kernel
theorem dX6_copy_139 : decode cX6_copy 139 = .ok (.iload_n 1, 1) := by decide +kernel
theorem dX6_copy_140 : decode cX6_copy 140 = .ok (.imul, 1) := by decide +kernel
theorem dX6_copy_141 : decode cX6_copy 141 = .ok (.iload_n 2, 1) := by decide +kernel
theorem dX6_copy_142 : decode cX6_copy 142 = .ok (.iadd, 1) := by decide +kernel
theorem dX6_copy_143 : decode cX6_copy 143 = .ok (.iload 6, 2) := by decide +kernel
theorem dX6_copy_145 : decode cX6_copy 145 = .ok (.iadd, 1) := by decide +kernel
theorem dX6_copy_146 : decode cX6_copy 146 = .ok (.iaload, 1) := by decide +kernel
theorem dX6_copy_147 : decode cX6_copy 147 = .ok (.iastore, 1) := by decide +kernel
theorem dX6_copy_148 : decode cX6_copy 148 = .ok (.iinc 6 1, 3) := by decide +kernel
theorem dX6_copy_151 : decode cX6_copy 151 = .ok (.goto (-31), 3) := by decide +kernel
theorem dX6_copy_154 : decode cX6_copy 154 = .ok (.iconst 0, 1) := by decide +kernel
theorem dX6_copy_155 : decode cX6_copy 155 = .ok (.istore 6, 2) := by decide +kernel
theorem dX6_copy_157 : decode cX6_copy 157 = .ok (.iload 6, 2) := by decide +kernel
theorem dX6_copy_159 : decode cX6_copy 159 = .ok (.iload 5, 2) := by decide +kernel
theorem dX6_copy_161 : decode cX6_copy 161 = .ok (.if_icmp .ge 31, 3) := by decide +kernel
theorem dX6_copy_164 : decode cX6_copy 164 = .ok (.aload_n 0, 1) := by decide +kernel
theorem dX6_copy_165 : decode cX6_copy 165 = .ok (.getfield 16, 3) := by decide +kernel
theorem dX6_copy_168 : decode cX6_copy 168 = .ok (.bipush 60, 2) := by decide +kernel
theorem dX6_copy_170 : decode cX6_copy 170 = .ok (.iload_n 3, 1) := by decide +kernel
theorem dX6_copy_171 : decode cX6_copy 171 = .ok (.imul, 1) := by decide +kernel
theorem dX6_copy_172 : decode cX6_copy 172 = .ok (.iload 4, 2) := by decide +kernel
theorem dX6_copy_174 : decode cX6_copy 174 = .ok (.iadd, 1) := by decide +kernel
theorem dX6_copy_175 : decode cX6_copy 175 = .ok (.iload 6, 2) := by decide +kernel
theorem dX6_copy_177 : decode cX6_copy 177 = .ok (.iadd, 1) := by decide +kernel
theorem dX6_copy_178 : decode cX6_copy 178 = .ok (.aload_n 0, 1) := by decide +kernel
theorem dX6_copy_179 : decode cX6_copy 179 = .ok (.getfield 19, 3) := by decide +kernel
theorem dX6_copy_182 : decode cX6_copy 182 = .ok (.iload 6, 2) := by decide +kernel
theorem dX6_copy_184 : decode cX6_copy 184 = .ok (.iaload, 1) := by decide +kernel
theorem dX6_copy_185 : decode cX6_copy 185 = .ok (.iastore, 1) := by decide +kernel
theorem dX6_copy_186 : decode cX6_copy 186 = .ok (.iinc 6 1, 3) := by decide +kernel
theorem dX6_copy_189 : decode cX6_copy 189 = .ok (.goto (-32), 3) := by decide +kernel
theorem dX6_copy_192 : decode cX6_copy 192 = .ok (.iconst 1, 1) := by decide +kernel
theorem dX6_copy_193 : decode cX6_copy 193 = .ok (.ireturn, 1) := by decide +kernel
theorem dX6_isText_0 : decode cX6_isText 0 = .ok (.iload_n 0, 1) := by decide +kernel
theorem dX6_isText_1 : decode cX6_isText 1 = .ok (.i2l, 1) := by decide +kernel
theorem dX6_isText_2 : decode cX6_isText 2 = .ok (.lconst 0, 1) := by decide +kernel
theorem dX6_isText_3 : decode cX6_isText 3 = .ok (.ldc2_w 107, 3) := by decide +kernel
theorem dX6_isText_6 : decode cX6_isText 6 = .ok (.invokestatic 94, 3) := by decide +kernel
theorem dX6_isText_9 : decode cX6_isText 9 = .ok (.ireturn, 1) := by decide +kernel
theorem dX6_type_0 : decode cX6_type 0 = .ok (.iload_n 1, 1) := by decide +kernel
theorem dX6_type_1 : decode cX6_type 1 = .ok (.invokestatic 122, 3) := by decide +kernel
theorem dX6_type_4 : decode cX6_type 4 = .ok (.ifCond .eq 15, 3) := by decide +kernel
theorem dX6_type_7 : decode cX6_type 7 = .ok (.iload_n 2, 1) := by decide +kernel
theorem dX6_type_8 : decode cX6_type 8 = .ok (.i2l, 1) := by decide +kernel
theorem dX6_type_9 : decode cX6_type 9 = .ok (.lconst 0, 1) := by decide +kernel
theorem dX6_type_10 : decode cX6_type 10 = .ok (.ldc2_w 125, 3) := by decide +kernel
theorem dX6_type_13 : decode cX6_type 13 = .ok (.invokestatic 94, 3) := by decide +kernel
theorem dX6_type_16 : decode cX6_type 16 = .ok (.ifCond .ne 6, 3) := by decide +kernel
theorem dX6_type_19 : decode cX6_type 19 = .ok (.bipush (-2), 2) := by decide +kernel
theorem dX6_type_21 : decode cX6_type 21 = .ok (.ireturn, 1) := by decide +kernel
theorem dX6_type_22 : decode cX6_type 22 = .ok (.aload_n 0, 1) := by decide +kernel
theorem dX6_type_23 : decode cX6_type 23 = .ok (.getfield 25, 3) := by decide +kernel
theorem dX6_type_26 : decode cX6_type 26 = .ok (.iload_n 1, 1) := by decide +kernel
theorem dX6_type_27 : decode cX6_type 27 = .ok (.iaload, 1) := by decide +kernel
theorem dX6_type_28 : decode cX6_type 28 = .ok (.iload_n 1, 1) := by decide +kernel
theorem dX6_type_29 : decode cX6_type 29 = .ok (.ifCond .ne 8, 3) := by decide +kernel
theorem dX6_type_32 : decode cX6_type 32 = .ok (.bipush 23, 2) := by decide +kernel
theorem dX6_type_34 : decode cX6_type 34 = .ok (.goto 15, 3) := by decide +kernel
theorem dX6_type_37 : decode cX6_type 37 = .ok (.iload_n 1, 1) := by decide +kernel
theorem dX6_type_38 : decode cX6_type 38 = .ok (.iconst 1, 1) := by decide +kernel
theorem dX6_type_39 : decode cX6_type 39 = .ok (.if_icmp .ne 8, 3) := by decide +kernel
theorem dX6_type_42 : decode cX6_type 42 = .ok (.bipush 31, 2) := by decide +kernel
theorem dX6_type_44 : decode cX6_type 44 = .ok (.goto 5, 3) := by decide +kernel
theorem dX6_type_47 : decode cX6_type 47 = .ok (.bipush 24, 2) := by decide +kernel
theorem dX6_type_49 : decode cX6_type 49 = .ok (.if_icmp .ne 6, 3) := by decide +kernel
theorem dX6_type_52 : decode cX6_type 52 = .ok (.bipush (-4), 2) := by decide +kernel
theorem dX6_type_54 : decode cX6_type 54 = .ok (.ireturn, 1) := by decide +kernel
theorem dX6_type_55 : decode cX6_type 55 = .ok (.aload_n 0, 1) := by decide +kernel
theorem dX6_type_56 : decode cX6_type 56 = .ok (.getfield 22, 3) := by decide +kernel
theorem dX6_type_59 : decode cX6_type 59 = .ok (.bipush 32, 2) := by decide +kernel
theorem dX6_type_61 : decode cX6_type 61 = .ok (.iload_n 1, 1) := by decide +kernel
theorem dX6_type_62 : decode cX6_type 62 = .ok (.imul, 1) := by decide +kernel
theorem dX6_type_63 : decode cX6_type 63 = .ok (.aload_n 0, 1) := by decide +kernel
theorem dX6_type_64 : decode cX6_type 64 = .ok (.getfield 25, 3) := by decide +kernel
theorem dX6_type_67 : decode cX6_type 67 = .ok (.iload_n 1, 1) := by decide +kernel
theorem dX6_type_68 : decode cX6_type 68 = .ok (.iaload, 1) := by decide +kernel
theorem dX6_type_69 : decode cX6_type 69 = .ok (.iadd, 1) := by decide +kernel
theorem dX6_type_70 : decode cX6_type 70 = .ok (.iload_n 2, 1) := by decide +kernel
theorem dX6_type_71 : decode cX6_type 71 = .ok (.iastore, 1) := by decide +kernel
theorem dX6_type_72 : decode cX6_type 72 = .ok (.aload_n 0, 1) := by decide +kernel
theorem dX6_type_73 : decode cX6_type 73 = .ok (.getfield 25, 3) := by decide +kernel
theorem dX6_type_76 : decode cX6_type 76 = .ok (.iload_n 1, 1) := by decide +kernel
theorem dX6_type_77 : decode cX6_type 77 = .ok (.dup2, 1) := by decide +kernel
theorem dX6_type_78 : decode cX6_type 78 = .ok (.iaload, 1) := by decide +kernel
theorem dX6_type_79 : decode cX6_type 79 = .ok (.iconst 1, 1) := by decide +kernel
theorem dX6_type_80 : decode cX6_type 80 = .ok (.iadd, 1) := by decide +kernel
theorem dX6_type_81 : decode cX6_type 81 = .ok (.iastore, 1) := by decide +kernel
theorem dX6_type_82 : decode cX6_type 82 = .ok (.aload_n 0, 1) := by decide +kernel
theorem dX6_type_83 : decode cX6_type 83 = .ok (.getfield 25, 3) := by decide +kernel
theorem dX6_type_86 : decode cX6_type 86 = .ok (.iload_n 1, 1) := by decide +kernel
theorem dX6_type_87 : decode cX6_type 87 = .ok (.iaload, 1) := by decide +kernel
theorem dX6_type_88 : decode cX6_type 88 = .ok (.ireturn, 1) := by decide +kernel
theorem dX6_wipe_0 : decode cX6_wipe 0 = .ok (.iload_n 1, 1) := by decide +kernel
theorem dX6_wipe_1 : decode cX6_wipe 1 = .ok (.invokestatic 122, 3) := by decide +kernel
theorem dX6_wipe_4 : decode cX6_wipe 4 = .ok (.ifCond .ne 6, 3) := by decide +kernel
theorem dX6_wipe_7 : decode cX6_wipe 7 = .ok (.bipush (-2), 2) := by decide +kernel
theorem dX6_wipe_9 : decode cX6_wipe 9 = .ok (.ireturn, 1) := by decide +kernel
theorem dX6_wipe_10 : decode cX6_wipe 10 = .ok (.aload_n 0, 1) := by decide +kernel
theorem dX6_wipe_11 : decode cX6_wipe 11 = .ok (.getfield 25, 3) := by decide +kernel
theorem dX6_wipe_14 : decode cX6_wipe 14 = .ok (.iload_n 1, 1) := by decide +kernel
theorem dX6_wipe_15 : decode cX6_wipe 15 = .ok (.iaload, 1) := by decide +kernel
theorem dX6_wipe_16 : decode cX6_wipe 16 = .ok (.istore_n 2, 1) := by decide +kernel
theorem dX6_wipe_17 : decode cX6_wipe 17 = .ok (.aload_n 0, 1) := by decide +kernel
theorem dX6_wipe_18 : decode cX6_wipe 18 = .ok (.getfield 25, 3) := by decide +kernel
theorem dX6_wipe_21 : decode cX6_wipe 21 = .ok (.iload_n 1, 1) := by decide +kernel
theorem dX6_wipe_22 : decode cX6_wipe 22 = .ok (.iconst 0, 1) := by decide +kernel
theorem dX6_wipe_23 : decode cX6_wipe 23 = .ok (.iastore, 1) := by decide +kernel
theorem dX6_wipe_24 : decode cX6_wipe 24 = .ok (.iload_n 2, 1) := by decide +kernel
theorem dX6_wipe_25 : decode cX6_wipe 25 = .ok (.ireturn, 1) := by decide +kernel
theorem dX6_undo_0 : decode cX6_undo 0 = .ok (.iload_n 1, 1) := by decide +kernel
theorem dX6_undo_1 : decode cX6_undo 1 = .ok (.invokestatic 122, 3) := by decide +kernel
theorem dX6_undo_4 : decode cX6_undo 4 = .ok (.ifCond .ne 6, 3) := by decide +kernel
theorem dX6_undo_7 : decode cX6_undo 7 = .ok (.bipush (-2), 2) := by decide +kernel
theorem dX6_undo_9 : decode cX6_undo 9 = .ok (.ireturn, 1) := by decide +kernel
theorem dX6_undo_10 : decode cX6_undo 10 = .ok (.aload_n 0, 1) := by decide +kernel
theorem dX6_undo_11 : decode cX6_undo 11 = .ok (.getfield 25, 3) := by decide +kernel
theorem dX6_undo_14 : decode cX6_undo 14 = .ok (.iload_n 1, 1) := by decide +kernel
theorem dX6_undo_15 : decode cX6_undo 15 = .ok (.iaload, 1) := by decide +kernel
theorem dX6_undo_16 : decode cX6_undo 16 = .ok (.ifCond .ne 6, 3) := by decide +kernel
theorem dX6_undo_19 : decode cX6_undo 19 = .ok (.bipush (-3), 2) := by decide +kernel
theorem dX6_undo_21 : decode cX6_undo 21 = .ok (.ireturn, 1) := by decide +kernel
theorem dX6_undo_22 : decode cX6_undo 22 = .ok (.aload_n 0, 1) := by decide +kernel
theorem dX6_undo_23 : decode cX6_undo 23 = .ok (.getfield 25, 3) := by decide +kernel
theorem dX6_undo_26 : decode cX6_undo 26 = .ok (.iload_n 1, 1) := by decide +kernel
theorem dX6_undo_27 : decode cX6_undo 27 = .ok (.dup2, 1) := by decide +kernel
theorem dX6_undo_28 : decode cX6_undo 28 = .ok (.iaload, 1) := by decide +kernel
theorem dX6_undo_29 : decode cX6_undo 29 = .ok (.iconst 1, 1) := by decide +kernel
theorem dX6_undo_30 : decode cX6_undo 30 = .ok (.isub, 1) := by decide +kernel
theorem dX6_undo_31 : decode cX6_undo 31 = .ok (.iastore, 1) := by decide +kernel
theorem dX6_undo_32 : decode cX6_undo 32 = .ok (.aload_n 0, 1) := by decide +kernel
theorem dX6_undo_33 : decode cX6_undo 33 = .ok (.getfield 25, 3) := by decide +kernel
theorem dX6_undo_36 : decode cX6_undo 36 = .ok (.iload_n 1, 1) := by decide +kernel
theorem dX6_undo_37 : decode cX6_undo 37 = .ok (.iaload, 1) := by decide +kernel
theorem dX6_undo_38 : decode cX6_undo 38 = .ok (.ireturn, 1) := by decide +kernel
theorem dX6_personOf_0 : decode cX6_personOf 0 = .ok (.iload_n 0, 1) := by decide +kernel
theorem dX6_personOf_1 : decode cX6_personOf 1 = .ok (.ifCond .ne 36, 3) := by decide +kernel
theorem dX6_personOf_4 : decode cX6_personOf 4 = .ok (.iload_n 1, 1) := by decide +kernel
theorem dX6_personOf_5 : decode cX6_personOf 5 = .ok (.bipush 99, 2) := by decide +kernel
theorem dX6_personOf_7 : decode cX6_personOf 7 = .ok (.if_icmp .ne 7, 3) := by decide +kernel
theorem dX6_personOf_10 : decode cX6_personOf 10 = .ok (.iconst 0, 1) := by decide +kernel
theorem dX6_personOf_11 : decode cX6_personOf 11 = .ok (.goto 25, 3) := by decide +kernel
theorem dX6_personOf_14 : decode cX6_personOf 14 = .ok (.iload_n 1, 1) := by decide +kernel
theorem dX6_personOf_15 : decode cX6_personOf 15 = .ok (.bipush 109, 2) := by decide +kernel
theorem dX6_personOf_17 : decode cX6_personOf 17 = .ok (.if_icmp .ne 7, 3) := by decide +kernel
theorem dX6_personOf_20 : decode cX6_personOf 20 = .ok (.iconst 1, 1) := by decide +kernel
theorem dX6_personOf_21 : decode cX6_personOf 21 = .ok (.goto 15, 3) := by decide +kernel
theorem dX6_personOf_24 : decode cX6_personOf 24 = .ok (.iload_n 1, 1) := by decide +kernel
theorem dX6_personOf_25 : decode cX6_personOf 25 = .ok (.bipush 104, 2) := by decide +kernel
theorem dX6_personOf_27 : decode cX6_personOf 27 = .ok (.if_icmp .ne 7, 3) := by decide +kernel
theorem dX6_personOf_30 : decode cX6_personOf 30 = .ok (.iconst 2, 1) := by decide +kernel
theorem dX6_personOf_31 : decode cX6_personOf 31 = .ok (.goto 5, 3) := by decide +kernel
theorem dX6_personOf_34 : decode cX6_personOf 34 = .ok (.bipush (-9), 2) := by decide +kernel
theorem dX6_personOf_36 : decode cX6_personOf 36 = .ok (.ireturn, 1) := by decide +kernel
theorem dX6_personOf_37 : decode cX6_personOf 37 = .ok (.iload_n 0, 1) := by decide +kernel
theorem dX6_personOf_38 : decode cX6_personOf 38 = .ok (.iconst 1, 1) := by decide +kernel
theorem dX6_personOf_39 : decode cX6_personOf 39 = .ok (.if_icmp .ne 29, 3) := by decide +kernel
theorem dX6_personOf_42 : decode cX6_personOf 42 = .ok (.iload_n 1, 1) := by decide +kernel
theorem dX6_personOf_43 : decode cX6_personOf 43 = .ok (.i2l, 1) := by decide +kernel
theorem dX6_personOf_44 : decode cX6_personOf 44 = .ok (.ldc2_w 127, 3) := by decide +kernel
theorem dX6_personOf_47 : decode cX6_personOf 47 = .ok (.ldc2_w 129, 3) := by decide +kernel
theorem dX6_personOf_50 : decode cX6_personOf 50 = .ok (.invokestatic 94, 3) := by decide +kernel
theorem dX6_personOf_53 : decode cX6_personOf 53 = .ok (.ifCond .eq 10, 3) := by decide +kernel
theorem dX6_personOf_56 : decode cX6_personOf 56 = .ok (.iload_n 1, 1) := by decide +kernel
theorem dX6_personOf_57 : decode cX6_personOf 57 = .ok (.bipush 48, 2) := by decide +kernel
theorem dX6_personOf_59 : decode cX6_personOf 59 = .ok (.isub, 1) := by decide +kernel
theorem dX6_personOf_60 : decode cX6_personOf 60 = .ok (.goto 20, 3) := by decide +kernel
theorem dX6_personOf_63 : decode cX6_personOf 63 = .ok (.bipush (-9), 2) := by decide +kernel
theorem dX6_personOf_65 : decode cX6_personOf 65 = .ok (.goto 15, 3) := by decide +kernel
theorem dX6_personOf_68 : decode cX6_personOf 68 = .ok (.iload_n 1, 1) := by decide +kernel
theorem dX6_personOf_69 : decode cX6_personOf 69 = .ok (.bipush 59, 2) := by decide +kernel
theorem dX6_personOf_71 : decode cX6_personOf 71 = .ok (.if_icmp .ne 7, 3) := by decide +kernel
theorem dX6_personOf_74 : decode cX6_personOf 74 = .ok (.iconst 0, 1) := by decide +kernel
theorem dX6_personOf_75 : decode cX6_personOf 75 = .ok (.goto 5, 3) := by decide +kernel
theorem dX6_personOf_78 : decode cX6_personOf 78 = .ok (.bipush (-9), 2) := by decide +kernel
theorem dX6_personOf_80 : decode cX6_personOf 80 = .ok (.ireturn, 1) := by decide +kernel
theorem dX6_readsPeople_0 : decode cX6_readsPeople 0 = .ok (.aload_n 0, 1) := by decide +kernel
theorem dX6_readsPeople_1 : decode cX6_readsPeople 1 = .ok (.iconst 0, 1) := by decide +kernel
theorem dX6_readsPeople_2 : decode cX6_readsPeople 2 = .ok (.putfield 131, 3) := by decide +kernel
theorem dX6_readsPeople_5 : decode cX6_readsPeople 5 = .ok (.aload_n 0, 1) := by decide +kernel
theorem dX6_readsPeople_6 : decode cX6_readsPeople 6 = .ok (.getfield 25, 3) := by decide +kernel
theorem dX6_readsPeople_9 : decode cX6_readsPeople 9 = .ok (.iconst 0, 1) := by decide +kernel
theorem dX6_readsPeople_10 : decode cX6_readsPeople 10 = .ok (.iaload, 1) := by decide +kernel
theorem dX6_readsPeople_11 : decode cX6_readsPeople 11 = .ok (.istore_n 1, 1) := by decide +kernel
theorem dX6_readsPeople_12 : decode cX6_readsPeople 12 = .ok (.iconst 0, 1) := by decide +kernel
theorem dX6_readsPeople_13 : decode cX6_readsPeople 13 = .ok (.istore_n 2, 1) := by decide +kernel
theorem dX6_readsPeople_14 : decode cX6_readsPeople 14 = .ok (.iload_n 2, 1) := by decide +kernel
theorem dX6_readsPeople_15 : decode cX6_readsPeople 15 = .ok (.iload_n 1, 1) := by decide +kernel
theorem dX6_readsPeople_16 : decode cX6_readsPeople 16 = .ok (.if_icmp .ge 77, 3) := by decide +kernel
theorem dX6_readsPeople_19 : decode cX6_readsPeople 19 = .ok (.iload_n 2, 1) := by decide +kernel
theorem dX6_readsPeople_20 : decode cX6_readsPeople 20 = .ok (.iconst 3, 1) := by decide +kernel
theorem dX6_readsPeople_21 : decode cX6_readsPeople 21 = .ok (.irem, 1) := by decide +kernel
theorem dX6_readsPeople_22 : decode cX6_readsPeople 22 = .ok (.istore_n 3, 1) := by decide +kernel
theorem dX6_readsPeople_23 : decode cX6_readsPeople 23 = .ok (.iload_n 3, 1) := by decide +kernel
theorem dX6_readsPeople_24 : decode cX6_readsPeople 24 = .ok (.aload_n 0, 1) := by decide +kernel
theorem dX6_readsPeople_25 : decode cX6_readsPeople 25 = .ok (.getfield 22, 3) := by decide +kernel
theorem dX6_readsPeople_28 : decode cX6_readsPeople 28 = .ok (.iload_n 2, 1) := by decide +kernel
theorem dX6_readsPeople_29 : decode cX6_readsPeople 29 = .ok (.iaload, 1) := by decide +kernel
theorem dX6_readsPeople_30 : decode cX6_readsPeople 30 = .ok (.invokestatic 134, 3) := by decide +kernel
theorem dX6_readsPeople_33 : decode cX6_readsPeople 33 = .ok (.istore 4, 2) := by decide +kernel
theorem dX6_readsPeople_35 : decode cX6_readsPeople 35 = .ok (.iload 4, 2) := by decide +kernel
theorem dX6_readsPeople_37 : decode cX6_readsPeople 37 = .ok (.bipush (-9), 2) := by decide +kernel
theorem dX6_readsPeople_39 : decode cX6_readsPeople 39 = .ok (.if_icmp .ne 10, 3) := by decide +kernel
theorem dX6_readsPeople_42 : decode cX6_readsPeople 42 = .ok (.aload_n 0, 1) := by decide +kernel
theorem dX6_readsPeople_43 : decode cX6_readsPeople 43 = .ok (.iconst 0, 1) := by decide +kernel
theorem dX6_readsPeople_44 : decode cX6_readsPeople 44 = .ok (.putfield 131, 3) := by decide +kernel
theorem dX6_readsPeople_47 : decode cX6_readsPeople 47 = .ok (.iload_n 2, 1) := by decide +kernel
theorem dX6_readsPeople_48 : decode cX6_readsPeople 48 = .ok (.ireturn, 1) := by decide +kernel
theorem dX6_readsPeople_49 : decode cX6_readsPeople 49 = .ok (.iload_n 3, 1) := by decide +kernel
theorem dX6_readsPeople_50 : decode cX6_readsPeople 50 = .ok (.iconst 2, 1) := by decide +kernel
theorem dX6_readsPeople_51 : decode cX6_readsPeople 51 = .ok (.if_icmp .ge 17, 3) := by decide +kernel
theorem dX6_readsPeople_54 : decode cX6_readsPeople 54 = .ok (.aload_n 0, 1) := by decide +kernel
theorem dX6_readsPeople_55 : decode cX6_readsPeople 55 = .ok (.getfield 28, 3) := by decide +kernel
theorem dX6_readsPeople_58 : decode cX6_readsPeople 58 = .ok (.iconst 2, 1) := by decide +kernel
theorem dX6_readsPeople_59 : decode cX6_readsPeople 59 = .ok (.iload_n 2, 1) := by decide +kernel
theorem dX6_readsPeople_60 : decode cX6_readsPeople 60 = .ok (.iconst 3, 1) := by decide +kernel
theorem dX6_readsPeople_61 : decode cX6_readsPeople 61 = .ok (.idiv, 1) := by decide +kernel
theorem dX6_readsPeople_62 : decode cX6_readsPeople 62 = .ok (.imul, 1) := by decide +kernel
theorem dX6_readsPeople_63 : decode cX6_readsPeople 63 = .ok (.iload_n 3, 1) := by decide +kernel
theorem dX6_readsPeople_64 : decode cX6_readsPeople 64 = .ok (.iadd, 1) := by decide +kernel
theorem dX6_readsPeople_65 : decode cX6_readsPeople 65 = .ok (.iload 4, 2) := by decide +kernel
theorem dX6_readsPeople_67 : decode cX6_readsPeople 67 = .ok (.iastore, 1) := by decide +kernel
theorem dX6_readsPeople_68 : decode cX6_readsPeople 68 = .ok (.aload_n 0, 1) := by decide +kernel
theorem dX6_readsPeople_69 : decode cX6_readsPeople 69 = .ok (.dup, 1) := by decide +kernel
theorem dX6_readsPeople_70 : decode cX6_readsPeople 70 = .ok (.getfield 131, 3) := by decide +kernel
theorem dX6_readsPeople_73 : decode cX6_readsPeople 73 = .ok (.iload_n 3, 1) := by decide +kernel
theorem dX6_readsPeople_74 : decode cX6_readsPeople 74 = .ok (.iconst 1, 1) := by decide +kernel
theorem dX6_readsPeople_75 : decode cX6_readsPeople 75 = .ok (.if_icmp .ne 7, 3) := by decide +kernel
theorem dX6_readsPeople_78 : decode cX6_readsPeople 78 = .ok (.iconst 1, 1) := by decide +kernel
theorem dX6_readsPeople_79 : decode cX6_readsPeople 79 = .ok (.goto 4, 3) := by decide +kernel
theorem dX6_readsPeople_82 : decode cX6_readsPeople 82 = .ok (.iconst 0, 1) := by decide +kernel
theorem dX6_readsPeople_83 : decode cX6_readsPeople 83 = .ok (.iadd, 1) := by decide +kernel
theorem dX6_readsPeople_84 : decode cX6_readsPeople 84 = .ok (.putfield 131, 3) := by decide +kernel
theorem dX6_readsPeople_87 : decode cX6_readsPeople 87 = .ok (.iinc 2 1, 3) := by decide +kernel
theorem dX6_readsPeople_90 : decode cX6_readsPeople 90 = .ok (.goto (-76), 3) := by decide +kernel
theorem dX6_readsPeople_93 : decode cX6_readsPeople 93 = .ok (.iload_n 1, 1) := by decide +kernel
theorem dX6_readsPeople_94 : decode cX6_readsPeople 94 = .ok (.ifCond .le 17, 3) := by decide +kernel
theorem dX6_readsPeople_97 : decode cX6_readsPeople 97 = .ok (.iload_n 1, 1) := by decide +kernel
theorem dX6_readsPeople_98 : decode cX6_readsPeople 98 = .ok (.iconst 3, 1) := by decide +kernel
theorem dX6_readsPeople_99 : decode cX6_readsPeople 99 = .ok (.irem, 1) := by decide +kernel
theorem dX6_readsPeople_100 : decode cX6_readsPeople 100 = .ok (.iconst 2, 1) := by decide +kernel
theorem dX6_readsPeople_101 : decode cX6_readsPeople 101 = .ok (.if_icmp .eq 10, 3) := by decide +kernel
theorem dX6_readsPeople_104 : decode cX6_readsPeople 104 = .ok (.aload_n 0, 1) := by decide +kernel
theorem dX6_readsPeople_105 : decode cX6_readsPeople 105 = .ok (.iconst 0, 1) := by decide +kernel
theorem dX6_readsPeople_106 : decode cX6_readsPeople 106 = .ok (.putfield 131, 3) := by decide +kernel
theorem dX6_readsPeople_109 : decode cX6_readsPeople 109 = .ok (.iload_n 1, 1) := by decide +kernel
theorem dX6_readsPeople_110 : decode cX6_readsPeople 110 = .ok (.ireturn, 1) := by decide +kernel
theorem dX6_readsPeople_111 : decode cX6_readsPeople 111 = .ok (.iconst (-1), 1) := by decide +kernel
theorem dX6_readsPeople_112 : decode cX6_readsPeople 112 = .ok (.ireturn, 1) := by decide +kernel
theorem dX6_quarrelOf_0 : decode cX6_quarrelOf 0 = .ok (.iload_n 0, 1) := by decide +kernel
theorem dX6_quarrelOf_1 : decode cX6_quarrelOf 1 = .ok (.iconst 2, 1) := by decide +kernel
theorem dX6_quarrelOf_2 : decode cX6_quarrelOf 2 = .ok (.if_icmp .ge 27, 3) := by decide +kernel
theorem dX6_quarrelOf_5 : decode cX6_quarrelOf 5 = .ok (.iload_n 1, 1) := by decide +kernel
theorem dX6_quarrelOf_6 : decode cX6_quarrelOf 6 = .ok (.i2l, 1) := by decide +kernel
theorem dX6_quarrelOf_7 : decode cX6_quarrelOf 7 = .ok (.ldc2_w 137, 3) := by decide +kernel
theorem dX6_quarrelOf_10 : decode cX6_quarrelOf 10 = .ok (.ldc2_w 139, 3) := by decide +kernel
theorem dX6_quarrelOf_13 : decode cX6_quarrelOf 13 = .ok (.invokestatic 94, 3) := by decide +kernel
theorem dX6_quarrelOf_16 : decode cX6_quarrelOf 16 = .ok (.ifCond .eq 10, 3) := by decide +kernel
theorem dX6_quarrelOf_19 : decode cX6_quarrelOf 19 = .ok (.iload_n 1, 1) := by decide +kernel
theorem dX6_quarrelOf_20 : decode cX6_quarrelOf 20 = .ok (.bipush 48, 2) := by decide +kernel
theorem dX6_quarrelOf_22 : decode cX6_quarrelOf 22 = .ok (.isub, 1) := by decide +kernel
theorem dX6_quarrelOf_23 : decode cX6_quarrelOf 23 = .ok (.goto 5, 3) := by decide +kernel
theorem dX6_quarrelOf_26 : decode cX6_quarrelOf 26 = .ok (.bipush (-9), 2) := by decide +kernel
theorem dX6_quarrelOf_28 : decode cX6_quarrelOf 28 = .ok (.ireturn, 1) := by decide +kernel
theorem dX6_quarrelOf_29 : decode cX6_quarrelOf 29 = .ok (.iload_n 0, 1) := by decide +kernel
theorem dX6_quarrelOf_30 : decode cX6_quarrelOf 30 = .ok (.iconst 2, 1) := by decide +kernel
theorem dX6_quarrelOf_31 : decode cX6_quarrelOf 31 = .ok (.if_icmp .ne 29, 3) := by decide +kernel
theorem dX6_quarrelOf_34 : decode cX6_quarrelOf 34 = .ok (.iload_n 1, 1) := by decide +kernel
theorem dX6_quarrelOf_35 : decode cX6_quarrelOf 35 = .ok (.i2l, 1) := by decide +kernel
theorem dX6_quarrelOf_36 : decode cX6_quarrelOf 36 = .ok (.ldc2_w 141, 3) := by decide +kernel
theorem dX6_quarrelOf_39 : decode cX6_quarrelOf 39 = .ok (.ldc2_w 143, 3) := by decide +kernel
theorem dX6_quarrelOf_42 : decode cX6_quarrelOf 42 = .ok (.invokestatic 94, 3) := by decide +kernel
theorem dX6_quarrelOf_45 : decode cX6_quarrelOf 45 = .ok (.ifCond .eq 10, 3) := by decide +kernel
theorem dX6_quarrelOf_48 : decode cX6_quarrelOf 48 = .ok (.iload_n 1, 1) := by decide +kernel
theorem dX6_quarrelOf_49 : decode cX6_quarrelOf 49 = .ok (.bipush 97, 2) := by decide +kernel
theorem dX6_quarrelOf_51 : decode cX6_quarrelOf 51 = .ok (.isub, 1) := by decide +kernel
theorem dX6_quarrelOf_52 : decode cX6_quarrelOf 52 = .ok (.goto 20, 3) := by decide +kernel
theorem dX6_quarrelOf_55 : decode cX6_quarrelOf 55 = .ok (.bipush (-9), 2) := by decide +kernel
theorem dX6_quarrelOf_57 : decode cX6_quarrelOf 57 = .ok (.goto 15, 3) := by decide +kernel
theorem dX6_quarrelOf_60 : decode cX6_quarrelOf 60 = .ok (.iload_n 1, 1) := by decide +kernel
theorem dX6_quarrelOf_61 : decode cX6_quarrelOf 61 = .ok (.bipush 59, 2) := by decide +kernel
theorem dX6_quarrelOf_63 : decode cX6_quarrelOf 63 = .ok (.if_icmp .ne 7, 3) := by decide +kernel
theorem dX6_quarrelOf_66 : decode cX6_quarrelOf 66 = .ok (.iconst 0, 1) := by decide +kernel
theorem dX6_quarrelOf_67 : decode cX6_quarrelOf 67 = .ok (.goto 5, 3) := by decide +kernel
theorem dX6_quarrelOf_70 : decode cX6_quarrelOf 70 = .ok (.bipush (-9), 2) := by decide +kernel
theorem dX6_quarrelOf_72 : decode cX6_quarrelOf 72 = .ok (.ireturn, 1) := by decide +kernel
theorem dX6_readsQuarrels_0 : decode cX6_readsQuarrels 0 = .ok (.aload_n 0, 1) := by decide +kernel
theorem dX6_readsQuarrels_1 : decode cX6_readsQuarrels 1 = .ok (.iconst 0, 1) := by decide +kernel
theorem dX6_readsQuarrels_2 : decode cX6_readsQuarrels 2 = .ok (.putfield 145, 3) := by decide +kernel
theorem dX6_readsQuarrels_5 : decode cX6_readsQuarrels 5 = .ok (.aload_n 0, 1) := by decide +kernel
theorem dX6_readsQuarrels_6 : decode cX6_readsQuarrels 6 = .ok (.getfield 25, 3) := by decide +kernel
theorem dX6_readsQuarrels_9 : decode cX6_readsQuarrels 9 = .ok (.iconst 1, 1) := by decide +kernel
theorem dX6_readsQuarrels_10 : decode cX6_readsQuarrels 10 = .ok (.iaload, 1) := by decide +kernel
theorem dX6_readsQuarrels_11 : decode cX6_readsQuarrels 11 = .ok (.istore_n 1, 1) := by decide +kernel
theorem dX6_readsQuarrels_12 : decode cX6_readsQuarrels 12 = .ok (.iconst 0, 1) := by decide +kernel
theorem dX6_readsQuarrels_13 : decode cX6_readsQuarrels 13 = .ok (.istore_n 2, 1) := by decide +kernel
theorem dX6_readsQuarrels_14 : decode cX6_readsQuarrels 14 = .ok (.iload_n 2, 1) := by decide +kernel
theorem dX6_readsQuarrels_15 : decode cX6_readsQuarrels 15 = .ok (.iload_n 1, 1) := by decide +kernel
theorem dX6_readsQuarrels_16 : decode cX6_readsQuarrels 16 = .ok (.if_icmp .ge 80, 3) := by decide +kernel
theorem dX6_readsQuarrels_19 : decode cX6_readsQuarrels 19 = .ok (.iload_n 2, 1) := by decide +kernel
theorem dX6_readsQuarrels_20 : decode cX6_readsQuarrels 20 = .ok (.iconst 4, 1) := by decide +kernel
theorem dX6_readsQuarrels_21 : decode cX6_readsQuarrels 21 = .ok (.irem, 1) := by decide +kernel
theorem dX6_readsQuarrels_22 : decode cX6_readsQuarrels 22 = .ok (.istore_n 3, 1) := by decide +kernel
theorem dX6_readsQuarrels_23 : decode cX6_readsQuarrels 23 = .ok (.iload_n 3, 1) := by decide +kernel
theorem dX6_readsQuarrels_24 : decode cX6_readsQuarrels 24 = .ok (.aload_n 0, 1) := by decide +kernel
theorem dX6_readsQuarrels_25 : decode cX6_readsQuarrels 25 = .ok (.getfield 22, 3) := by decide +kernel
theorem dX6_readsQuarrels_28 : decode cX6_readsQuarrels 28 = .ok (.bipush 32, 2) := by decide +kernel
theorem dX6_readsQuarrels_30 : decode cX6_readsQuarrels 30 = .ok (.iload_n 2, 1) := by decide +kernel
theorem dX6_readsQuarrels_31 : decode cX6_readsQuarrels 31 = .ok (.iadd, 1) := by decide +kernel
theorem dX6_readsQuarrels_32 : decode cX6_readsQuarrels 32 = .ok (.iaload, 1) := by decide +kernel
theorem dX6_readsQuarrels_33 : decode cX6_readsQuarrels 33 = .ok (.invokestatic 148, 3) := by decide +kernel
theorem dX6_readsQuarrels_36 : decode cX6_readsQuarrels 36 = .ok (.istore 4, 2) := by decide +kernel
theorem dX6_readsQuarrels_38 : decode cX6_readsQuarrels 38 = .ok (.iload 4, 2) := by decide +kernel
theorem dX6_readsQuarrels_40 : decode cX6_readsQuarrels 40 = .ok (.bipush (-9), 2) := by decide +kernel
theorem dX6_readsQuarrels_42 : decode cX6_readsQuarrels 42 = .ok (.if_icmp .ne 10, 3) := by decide +kernel
theorem dX6_readsQuarrels_45 : decode cX6_readsQuarrels 45 = .ok (.aload_n 0, 1) := by decide +kernel
theorem dX6_readsQuarrels_46 : decode cX6_readsQuarrels 46 = .ok (.iconst 0, 1) := by decide +kernel
theorem dX6_readsQuarrels_47 : decode cX6_readsQuarrels 47 = .ok (.putfield 145, 3) := by decide +kernel
theorem dX6_readsQuarrels_50 : decode cX6_readsQuarrels 50 = .ok (.iload_n 2, 1) := by decide +kernel
theorem dX6_readsQuarrels_51 : decode cX6_readsQuarrels 51 = .ok (.ireturn, 1) := by decide +kernel
theorem dX6_readsQuarrels_52 : decode cX6_readsQuarrels 52 = .ok (.iload_n 3, 1) := by decide +kernel
theorem dX6_readsQuarrels_53 : decode cX6_readsQuarrels 53 = .ok (.iconst 3, 1) := by decide +kernel
theorem dX6_readsQuarrels_54 : decode cX6_readsQuarrels 54 = .ok (.if_icmp .ge 17, 3) := by decide +kernel
theorem dX6_readsQuarrels_57 : decode cX6_readsQuarrels 57 = .ok (.aload_n 0, 1) := by decide +kernel
theorem dX6_readsQuarrels_58 : decode cX6_readsQuarrels 58 = .ok (.getfield 31, 3) := by decide +kernel
theorem dX6_readsQuarrels_61 : decode cX6_readsQuarrels 61 = .ok (.iconst 3, 1) := by decide +kernel
theorem dX6_readsQuarrels_62 : decode cX6_readsQuarrels 62 = .ok (.iload_n 2, 1) := by decide +kernel
theorem dX6_readsQuarrels_63 : decode cX6_readsQuarrels 63 = .ok (.iconst 4, 1) := by decide +kernel
theorem dX6_readsQuarrels_64 : decode cX6_readsQuarrels 64 = .ok (.idiv, 1) := by decide +kernel
theorem dX6_readsQuarrels_65 : decode cX6_readsQuarrels 65 = .ok (.imul, 1) := by decide +kernel
theorem dX6_readsQuarrels_66 : decode cX6_readsQuarrels 66 = .ok (.iload_n 3, 1) := by decide +kernel
theorem dX6_readsQuarrels_67 : decode cX6_readsQuarrels 67 = .ok (.iadd, 1) := by decide +kernel
theorem dX6_readsQuarrels_68 : decode cX6_readsQuarrels 68 = .ok (.iload 4, 2) := by decide +kernel
theorem dX6_readsQuarrels_70 : decode cX6_readsQuarrels 70 = .ok (.iastore, 1) := by decide +kernel
theorem dX6_readsQuarrels_71 : decode cX6_readsQuarrels 71 = .ok (.aload_n 0, 1) := by decide +kernel
theorem dX6_readsQuarrels_72 : decode cX6_readsQuarrels 72 = .ok (.dup, 1) := by decide +kernel
theorem dX6_readsQuarrels_73 : decode cX6_readsQuarrels 73 = .ok (.getfield 145, 3) := by decide +kernel
theorem dX6_readsQuarrels_76 : decode cX6_readsQuarrels 76 = .ok (.iload_n 3, 1) := by decide +kernel
theorem dX6_readsQuarrels_77 : decode cX6_readsQuarrels 77 = .ok (.iconst 2, 1) := by decide +kernel
theorem dX6_readsQuarrels_78 : decode cX6_readsQuarrels 78 = .ok (.if_icmp .ne 7, 3) := by decide +kernel
theorem dX6_readsQuarrels_81 : decode cX6_readsQuarrels 81 = .ok (.iconst 1, 1) := by decide +kernel
theorem dX6_readsQuarrels_82 : decode cX6_readsQuarrels 82 = .ok (.goto 4, 3) := by decide +kernel
theorem dX6_readsQuarrels_85 : decode cX6_readsQuarrels 85 = .ok (.iconst 0, 1) := by decide +kernel
theorem dX6_readsQuarrels_86 : decode cX6_readsQuarrels 86 = .ok (.iadd, 1) := by decide +kernel
theorem dX6_readsQuarrels_87 : decode cX6_readsQuarrels 87 = .ok (.putfield 145, 3) := by decide +kernel
theorem dX6_readsQuarrels_90 : decode cX6_readsQuarrels 90 = .ok (.iinc 2 1, 3) := by decide +kernel
theorem dX6_readsQuarrels_93 : decode cX6_readsQuarrels 93 = .ok (.goto (-79), 3) := by decide +kernel
theorem dX6_readsQuarrels_96 : decode cX6_readsQuarrels 96 = .ok (.iload_n 1, 1) := by decide +kernel
theorem dX6_readsQuarrels_97 : decode cX6_readsQuarrels 97 = .ok (.ifCond .le 17, 3) := by decide +kernel
theorem dX6_readsQuarrels_100 : decode cX6_readsQuarrels 100 = .ok (.iload_n 1, 1) := by decide +kernel
theorem dX6_readsQuarrels_101 : decode cX6_readsQuarrels 101 = .ok (.iconst 4, 1) := by decide +kernel
theorem dX6_readsQuarrels_102 : decode cX6_readsQuarrels 102 = .ok (.irem, 1) := by decide +kernel
theorem dX6_readsQuarrels_103 : decode cX6_readsQuarrels 103 = .ok (.iconst 3, 1) := by decide +kernel
theorem dX6_readsQuarrels_104 : decode cX6_readsQuarrels 104 = .ok (.if_icmp .eq 10, 3) := by decide +kernel
theorem dX6_readsQuarrels_107 : decode cX6_readsQuarrels 107 = .ok (.aload_n 0, 1) := by decide +kernel
theorem dX6_readsQuarrels_108 : decode cX6_readsQuarrels 108 = .ok (.iconst 0, 1) := by decide +kernel
theorem dX6_readsQuarrels_109 : decode cX6_readsQuarrels 109 = .ok (.putfield 145, 3) := by decide +kernel
theorem dX6_readsQuarrels_112 : decode cX6_readsQuarrels 112 = .ok (.iload_n 1, 1) := by decide +kernel
theorem dX6_readsQuarrels_113 : decode cX6_readsQuarrels 113 = .ok (.ireturn, 1) := by decide +kernel
theorem dX6_readsQuarrels_114 : decode cX6_readsQuarrels 114 = .ok (.iconst (-1), 1) := by decide +kernel
theorem dX6_readsQuarrels_115 : decode cX6_readsQuarrels 115 = .ok (.ireturn, 1) := by decide +kernel
theorem dX6_grows_0 : decode cX6_grows 0 = .ok (.iconst 0, 1) := by decide +kernel
theorem dX6_grows_1 : decode cX6_grows 1 = .ok (.istore_n 2, 1) := by decide +kernel
theorem dX6_grows_2 : decode cX6_grows 2 = .ok (.iload_n 2, 1) := by decide +kernel
theorem dX6_grows_3 : decode cX6_grows 3 = .ok (.bipush 24, 2) := by decide +kernel
theorem dX6_grows_5 : decode cX6_grows 5 = .ok (.if_icmp .ge 16, 3) := by decide +kernel
theorem dX6_grows_8 : decode cX6_grows 8 = .ok (.aload_n 0, 1) := by decide +kernel
theorem dX6_grows_9 : decode cX6_grows 9 = .ok (.getfield 34, 3) := by decide +kernel
theorem dX6_grows_12 : decode cX6_grows 12 = .ok (.iload_n 2, 1) := by decide +kernel
theorem dX6_grows_13 : decode cX6_grows 13 = .ok (.iconst 3, 1) := by decide +kernel
theorem dX6_grows_14 : decode cX6_grows 14 = .ok (.iastore, 1) := by decide +kernel
theorem dX6_grows_15 : decode cX6_grows 15 = .ok (.iinc 2 1, 3) := by decide +kernel
theorem dX6_grows_18 : decode cX6_grows 18 = .ok (.goto (-16), 3) := by decide +kernel
theorem dX6_grows_21 : decode cX6_grows 21 = .ok (.aload_n 0, 1) := by decide +kernel
theorem dX6_grows_22 : decode cX6_grows 22 = .ok (.iconst 0, 1) := by decide +kernel
theorem dX6_grows_23 : decode cX6_grows 23 = .ok (.putfield 151, 3) := by decide +kernel
theorem dX6_grows_26 : decode cX6_grows 26 = .ok (.iload_n 1, 1) := by decide +kernel
theorem dX6_grows_27 : decode cX6_grows 27 = .ok (.ireturn, 1) := by decide +kernel
theorem dX6_readsGlass_0 : decode cX6_readsGlass 0 = .ok (.aload_n 0, 1) := by decide +kernel
theorem dX6_readsGlass_1 : decode cX6_readsGlass 1 = .ok (.iconst (-1), 1) := by decide +kernel
theorem dX6_readsGlass_2 : decode cX6_readsGlass 2 = .ok (.invokevirtual 154, 3) := by decide +kernel
theorem dX6_readsGlass_5 : decode cX6_readsGlass 5 = .ok (.pop, 1) := by decide +kernel
theorem dX6_readsGlass_6 : decode cX6_readsGlass 6 = .ok (.iconst 0, 1) := by decide +kernel
theorem dX6_readsGlass_7 : decode cX6_readsGlass 7 = .ok (.istore_n 1, 1) := by decide +kernel
theorem dX6_readsGlass_8 : decode cX6_readsGlass 8 = .ok (.iload_n 1, 1) := by decide +kernel
theorem dX6_readsGlass_9 : decode cX6_readsGlass 9 = .ok (.aload_n 0, 1) := by decide +kernel
theorem dX6_readsGlass_10 : decode cX6_readsGlass 10 = .ok (.getfield 25, 3) := by decide +kernel
theorem dX6_readsGlass_13 : decode cX6_readsGlass 13 = .ok (.iconst 2, 1) := by decide +kernel
theorem dX6_readsGlass_14 : decode cX6_readsGlass 14 = .ok (.iaload, 1) := by decide +kernel
theorem dX6_readsGlass_15 : decode cX6_readsGlass 15 = .ok (.if_icmp .ge 59, 3) := by decide +kernel
theorem dX6_readsGlass_18 : decode cX6_readsGlass 18 = .ok (.aload_n 0, 1) := by decide +kernel
theorem dX6_readsGlass_19 : decode cX6_readsGlass 19 = .ok (.getfield 22, 3) := by decide +kernel
theorem dX6_readsGlass_22 : decode cX6_readsGlass 22 = .ok (.bipush 64, 2) := by decide +kernel
theorem dX6_readsGlass_24 : decode cX6_readsGlass 24 = .ok (.iload_n 1, 1) := by decide +kernel
theorem dX6_readsGlass_25 : decode cX6_readsGlass 25 = .ok (.iadd, 1) := by decide +kernel
theorem dX6_readsGlass_26 : decode cX6_readsGlass 26 = .ok (.iaload, 1) := by decide +kernel
theorem dX6_readsGlass_27 : decode cX6_readsGlass 27 = .ok (.istore_n 2, 1) := by decide +kernel
theorem dX6_readsGlass_28 : decode cX6_readsGlass 28 = .ok (.iload_n 2, 1) := by decide +kernel
theorem dX6_readsGlass_29 : decode cX6_readsGlass 29 = .ok (.i2l, 1) := by decide +kernel
theorem dX6_readsGlass_30 : decode cX6_readsGlass 30 = .ok (.ldc2_w 137, 3) := by decide +kernel
theorem dX6_readsGlass_33 : decode cX6_readsGlass 33 = .ok (.ldc2_w 129, 3) := by decide +kernel
theorem dX6_readsGlass_36 : decode cX6_readsGlass 36 = .ok (.invokestatic 94, 3) := by decide +kernel
theorem dX6_readsGlass_39 : decode cX6_readsGlass 39 = .ok (.ifCond .ne 9, 3) := by decide +kernel
theorem dX6_readsGlass_42 : decode cX6_readsGlass 42 = .ok (.aload_n 0, 1) := by decide +kernel
theorem dX6_readsGlass_43 : decode cX6_readsGlass 43 = .ok (.iload_n 1, 1) := by decide +kernel
theorem dX6_readsGlass_44 : decode cX6_readsGlass 44 = .ok (.invokevirtual 154, 3) := by decide +kernel
theorem dX6_readsGlass_47 : decode cX6_readsGlass 47 = .ok (.ireturn, 1) := by decide +kernel
theorem dX6_readsGlass_48 : decode cX6_readsGlass 48 = .ok (.aload_n 0, 1) := by decide +kernel
theorem dX6_readsGlass_49 : decode cX6_readsGlass 49 = .ok (.getfield 34, 3) := by decide +kernel
theorem dX6_readsGlass_52 : decode cX6_readsGlass 52 = .ok (.iload_n 1, 1) := by decide +kernel
theorem dX6_readsGlass_53 : decode cX6_readsGlass 53 = .ok (.iload_n 2, 1) := by decide +kernel
theorem dX6_readsGlass_54 : decode cX6_readsGlass 54 = .ok (.bipush 48, 2) := by decide +kernel
theorem dX6_readsGlass_56 : decode cX6_readsGlass 56 = .ok (.isub, 1) := by decide +kernel
theorem dX6_readsGlass_57 : decode cX6_readsGlass 57 = .ok (.iastore, 1) := by decide +kernel
theorem dX6_readsGlass_58 : decode cX6_readsGlass 58 = .ok (.aload_n 0, 1) := by decide +kernel
theorem dX6_readsGlass_59 : decode cX6_readsGlass 59 = .ok (.dup, 1) := by decide +kernel
theorem dX6_readsGlass_60 : decode cX6_readsGlass 60 = .ok (.getfield 151, 3) := by decide +kernel
theorem dX6_readsGlass_63 : decode cX6_readsGlass 63 = .ok (.iconst 1, 1) := by decide +kernel
theorem dX6_readsGlass_64 : decode cX6_readsGlass 64 = .ok (.iadd, 1) := by decide +kernel
theorem dX6_readsGlass_65 : decode cX6_readsGlass 65 = .ok (.putfield 151, 3) := by decide +kernel
theorem dX6_readsGlass_68 : decode cX6_readsGlass 68 = .ok (.iinc 1 1, 3) := by decide +kernel
theorem dX6_readsGlass_71 : decode cX6_readsGlass 71 = .ok (.goto (-63), 3) := by decide +kernel
theorem dX6_readsGlass_74 : decode cX6_readsGlass 74 = .ok (.iconst (-1), 1) := by decide +kernel
theorem dX6_readsGlass_75 : decode cX6_readsGlass 75 = .ok (.ireturn, 1) := by decide +kernel
theorem dX6_readsText_0 : decode cX6_readsText 0 = .ok (.iload_n 1, 1) := by decide +kernel
theorem dX6_readsText_1 : decode cX6_readsText 1 = .ok (.ifCond .ne 10, 3) := by decide +kernel
theorem dX6_readsText_4 : decode cX6_readsText 4 = .ok (.aload_n 0, 1) := by decide +kernel
theorem dX6_readsText_5 : decode cX6_readsText 5 = .ok (.invokevirtual 157, 3) := by decide +kernel
theorem dX6_readsText_8 : decode cX6_readsText 8 = .ok (.goto 19, 3) := by decide +kernel
theorem dX6_readsText_11 : decode cX6_readsText 11 = .ok (.iload_n 1, 1) := by decide +kernel
theorem dX6_readsText_12 : decode cX6_readsText 12 = .ok (.iconst 1, 1) := by decide +kernel
theorem dX6_readsText_13 : decode cX6_readsText 13 = .ok (.if_icmp .ne 10, 3) := by decide +kernel
theorem dX6_readsText_16 : decode cX6_readsText 16 = .ok (.aload_n 0, 1) := by decide +kernel
theorem dX6_readsText_17 : decode cX6_readsText 17 = .ok (.invokevirtual 161, 3) := by decide +kernel
theorem dX6_readsText_20 : decode cX6_readsText 20 = .ok (.goto 7, 3) := by decide +kernel
theorem dX6_readsText_23 : decode cX6_readsText 23 = .ok (.aload_n 0, 1) := by decide +kernel
theorem dX6_readsText_24 : decode cX6_readsText 24 = .ok (.invokevirtual 164, 3) := by decide +kernel
theorem dX6_readsText_27 : decode cX6_readsText 27 = .ok (.ireturn, 1) := by decide +kernel
theorem dX6_fault_0 : decode cX6_fault 0 = .ok (.iload_n 1, 1) := by decide +kernel
theorem dX6_fault_1 : decode cX6_fault 1 = .ok (.invokestatic 122, 3) := by decide +kernel
theorem dX6_fault_4 : decode cX6_fault 4 = .ok (.ifCond .eq 11, 3) := by decide +kernel
theorem dX6_fault_7 : decode cX6_fault 7 = .ok (.aload_n 0, 1) := by decide +kernel
theorem dX6_fault_8 : decode cX6_fault 8 = .ok (.iload_n 1, 1) := by decide +kernel
theorem dX6_fault_9 : decode cX6_fault 9 = .ok (.invokevirtual 167, 3) := by decide +kernel
theorem dX6_fault_12 : decode cX6_fault 12 = .ok (.goto 5, 3) := by decide +kernel
theorem dX6_fault_15 : decode cX6_fault 15 = .ok (.bipush (-2), 2) := by decide +kernel
theorem dX6_fault_17 : decode cX6_fault 17 = .ok (.ireturn, 1) := by decide +kernel
theorem dX6_isPerson_0 : decode cX6_isPerson 0 = .ok (.iload_n 1, 1) := by decide +kernel
theorem dX6_isPerson_1 : decode cX6_isPerson 1 = .ok (.i2l, 1) := by decide +kernel
theorem dX6_isPerson_2 : decode cX6_isPerson 2 = .ok (.lconst 0, 1) := by decide +kernel
theorem dX6_isPerson_3 : decode cX6_isPerson 3 = .ok (.aload_n 0, 1) := by decide +kernel
theorem dX6_isPerson_4 : decode cX6_isPerson 4 = .ok (.getfield 131, 3) := by decide +kernel
theorem dX6_isPerson_7 : decode cX6_isPerson 7 = .ok (.iconst 1, 1) := by decide +kernel
theorem dX6_isPerson_8 : decode cX6_isPerson 8 = .ok (.isub, 1) := by decide +kernel
theorem dX6_isPerson_9 : decode cX6_isPerson 9 = .ok (.i2l, 1) := by decide +kernel
theorem dX6_isPerson_10 : decode cX6_isPerson 10 = .ok (.invokestatic 94, 3) := by decide +kernel
theorem dX6_isPerson_13 : decode cX6_isPerson 13 = .ok (.ireturn, 1) := by decide +kernel
theorem dX6_isQuarrel_0 : decode cX6_isQuarrel 0 = .ok (.iload_n 1, 1) := by decide +kernel
theorem dX6_isQuarrel_1 : decode cX6_isQuarrel 1 = .ok (.i2l, 1) := by decide +kernel
theorem dX6_isQuarrel_2 : decode cX6_isQuarrel 2 = .ok (.lconst 0, 1) := by decide +kernel
theorem dX6_isQuarrel_3 : decode cX6_isQuarrel 3 = .ok (.aload_n 0, 1) := by decide +kernel
theorem dX6_isQuarrel_4 : decode cX6_isQuarrel 4 = .ok (.getfield 145, 3) := by decide +kernel
theorem dX6_isQuarrel_7 : decode cX6_isQuarrel 7 = .ok (.iconst 1, 1) := by decide +kernel
theorem dX6_isQuarrel_8 : decode cX6_isQuarrel 8 = .ok (.isub, 1) := by decide +kernel
theorem dX6_isQuarrel_9 : decode cX6_isQuarrel 9 = .ok (.i2l, 1) := by decide +kernel
theorem dX6_isQuarrel_10 : decode cX6_isQuarrel 10 = .ok (.invokestatic 94, 3) := by decide +kernel
theorem dX6_isQuarrel_13 : decode cX6_isQuarrel 13 = .ok (.ireturn, 1) := by decide +kernel
theorem dX6_isDay_0 : decode cX6_isDay 0 = .ok (.iload_n 0, 1) := by decide +kernel
theorem dX6_isDay_1 : decode cX6_isDay 1 = .ok (.i2l, 1) := by decide +kernel
theorem dX6_isDay_2 : decode cX6_isDay 2 = .ok (.lconst 0, 1) := by decide +kernel
theorem dX6_isDay_3 : decode cX6_isDay 3 = .ok (.ldc2_w 170, 3) := by decide +kernel
theorem dX6_isDay_6 : decode cX6_isDay 6 = .ok (.invokestatic 94, 3) := by decide +kernel
theorem dX6_isDay_9 : decode cX6_isDay 9 = .ok (.ireturn, 1) := by decide +kernel
theorem dX6_person_0 : decode cX6_person 0 = .ok (.aload_n 0, 1) := by decide +kernel
theorem dX6_person_1 : decode cX6_person 1 = .ok (.invokevirtual 157, 3) := by decide +kernel
theorem dX6_person_4 : decode cX6_person 4 = .ok (.pop, 1) := by decide +kernel
theorem dX6_person_5 : decode cX6_person 5 = .ok (.aload_n 0, 1) := by decide +kernel
theorem dX6_person_6 : decode cX6_person 6 = .ok (.iload_n 1, 1) := by decide +kernel
theorem dX6_person_7 : decode cX6_person 7 = .ok (.invokevirtual 172, 3) := by decide +kernel
theorem dX6_person_10 : decode cX6_person 10 = .ok (.ifCond .eq 23, 3) := by decide +kernel
theorem dX6_person_13 : decode cX6_person 13 = .ok (.iload_n 2, 1) := by decide +kernel
theorem dX6_person_14 : decode cX6_person 14 = .ok (.invokestatic 175, 3) := by decide +kernel
theorem dX6_person_17 : decode cX6_person 17 = .ok (.ifCond .eq 16, 3) := by decide +kernel
theorem dX6_person_20 : decode cX6_person 20 = .ok (.aload_n 0, 1) := by decide +kernel
theorem dX6_person_21 : decode cX6_person 21 = .ok (.getfield 28, 3) := by decide +kernel
theorem dX6_person_24 : decode cX6_person 24 = .ok (.iconst 2, 1) := by decide +kernel
theorem dX6_person_25 : decode cX6_person 25 = .ok (.iload_n 1, 1) := by decide +kernel
theorem dX6_person_26 : decode cX6_person 26 = .ok (.imul, 1) := by decide +kernel
theorem dX6_person_27 : decode cX6_person 27 = .ok (.iload_n 2, 1) := by decide +kernel
theorem dX6_person_28 : decode cX6_person 28 = .ok (.iadd, 1) := by decide +kernel
theorem dX6_person_29 : decode cX6_person 29 = .ok (.iaload, 1) := by decide +kernel
theorem dX6_person_30 : decode cX6_person 30 = .ok (.goto 5, 3) := by decide +kernel
theorem dX6_person_33 : decode cX6_person 33 = .ok (.bipush (-2), 2) := by decide +kernel
theorem dX6_person_35 : decode cX6_person 35 = .ok (.ireturn, 1) := by decide +kernel
theorem dX6_quarrel_0 : decode cX6_quarrel 0 = .ok (.aload_n 0, 1) := by decide +kernel
theorem dX6_quarrel_1 : decode cX6_quarrel 1 = .ok (.invokevirtual 161, 3) := by decide +kernel
theorem dX6_quarrel_4 : decode cX6_quarrel 4 = .ok (.pop, 1) := by decide +kernel
theorem dX6_quarrel_5 : decode cX6_quarrel 5 = .ok (.aload_n 0, 1) := by decide +kernel
theorem dX6_quarrel_6 : decode cX6_quarrel 6 = .ok (.iload_n 1, 1) := by decide +kernel
theorem dX6_quarrel_7 : decode cX6_quarrel 7 = .ok (.invokevirtual 178, 3) := by decide +kernel
theorem dX6_quarrel_10 : decode cX6_quarrel 10 = .ok (.ifCond .eq 28, 3) := by decide +kernel
theorem dX6_quarrel_13 : decode cX6_quarrel 13 = .ok (.iload_n 2, 1) := by decide +kernel
theorem dX6_quarrel_14 : decode cX6_quarrel 14 = .ok (.i2l, 1) := by decide +kernel
theorem dX6_quarrel_15 : decode cX6_quarrel 15 = .ok (.lconst 0, 1) := by decide +kernel
theorem dX6_quarrel_16 : decode cX6_quarrel 16 = .ok (.ldc2_w 107, 3) := by decide +kernel
theorem dX6_quarrel_19 : decode cX6_quarrel 19 = .ok (.invokestatic 94, 3) := by decide +kernel
theorem dX6_quarrel_22 : decode cX6_quarrel 22 = .ok (.ifCond .eq 16, 3) := by decide +kernel
theorem dX6_quarrel_25 : decode cX6_quarrel 25 = .ok (.aload_n 0, 1) := by decide +kernel
theorem dX6_quarrel_26 : decode cX6_quarrel 26 = .ok (.getfield 31, 3) := by decide +kernel
theorem dX6_quarrel_29 : decode cX6_quarrel 29 = .ok (.iconst 3, 1) := by decide +kernel
theorem dX6_quarrel_30 : decode cX6_quarrel 30 = .ok (.iload_n 1, 1) := by decide +kernel
theorem dX6_quarrel_31 : decode cX6_quarrel 31 = .ok (.imul, 1) := by decide +kernel
theorem dX6_quarrel_32 : decode cX6_quarrel 32 = .ok (.iload_n 2, 1) := by decide +kernel
theorem dX6_quarrel_33 : decode cX6_quarrel 33 = .ok (.iadd, 1) := by decide +kernel
theorem dX6_quarrel_34 : decode cX6_quarrel 34 = .ok (.iaload, 1) := by decide +kernel
theorem dX6_quarrel_35 : decode cX6_quarrel 35 = .ok (.goto 5, 3) := by decide +kernel
theorem dX6_quarrel_38 : decode cX6_quarrel 38 = .ok (.bipush (-2), 2) := by decide +kernel
theorem dX6_quarrel_40 : decode cX6_quarrel 40 = .ok (.ireturn, 1) := by decide +kernel
theorem dX6_glass_0 : decode cX6_glass 0 = .ok (.aload_n 0, 1) := by decide +kernel
theorem dX6_glass_1 : decode cX6_glass 1 = .ok (.invokevirtual 164, 3) := by decide +kernel
theorem dX6_glass_4 : decode cX6_glass 4 = .ok (.pop, 1) := by decide +kernel
theorem dX6_glass_5 : decode cX6_glass 5 = .ok (.iload_n 1, 1) := by decide +kernel
theorem dX6_glass_6 : decode cX6_glass 6 = .ok (.invokestatic 181, 3) := by decide +kernel
theorem dX6_glass_9 : decode cX6_glass 9 = .ok (.ifCond .eq 12, 3) := by decide +kernel
theorem dX6_glass_12 : decode cX6_glass 12 = .ok (.aload_n 0, 1) := by decide +kernel
theorem dX6_glass_13 : decode cX6_glass 13 = .ok (.getfield 34, 3) := by decide +kernel
theorem dX6_glass_16 : decode cX6_glass 16 = .ok (.iload_n 1, 1) := by decide +kernel
theorem dX6_glass_17 : decode cX6_glass 17 = .ok (.iaload, 1) := by decide +kernel
theorem dX6_glass_18 : decode cX6_glass 18 = .ok (.goto 5, 3) := by decide +kernel
theorem dX6_glass_21 : decode cX6_glass 21 = .ok (.bipush (-2), 2) := by decide +kernel
theorem dX6_glass_23 : decode cX6_glass 23 = .ok (.ireturn, 1) := by decide +kernel
theorem dX6_event_0 : decode cX6_event 0 = .ok (.iload_n 1, 1) := by decide +kernel
theorem dX6_event_1 : decode cX6_event 1 = .ok (.invokestatic 175, 3) := by decide +kernel
theorem dX6_event_4 : decode cX6_event 4 = .ok (.ifCond .eq 10, 3) := by decide +kernel
theorem dX6_event_7 : decode cX6_event 7 = .ok (.iload_n 2, 1) := by decide +kernel
theorem dX6_event_8 : decode cX6_event 8 = .ok (.invokestatic 181, 3) := by decide +kernel
theorem dX6_event_11 : decode cX6_event 11 = .ok (.ifCond .ne 6, 3) := by decide +kernel
theorem dX6_event_14 : decode cX6_event 14 = .ok (.bipush (-2), 2) := by decide +kernel
theorem dX6_event_16 : decode cX6_event 16 = .ok (.ireturn, 1) := by decide +kernel
theorem dX6_event_17 : decode cX6_event 17 = .ok (.aload_n 0, 1) := by decide +kernel
theorem dX6_event_18 : decode cX6_event 18 = .ok (.getfield 184, 3) := by decide +kernel
theorem dX6_event_21 : decode cX6_event 21 = .ok (.bipush 8, 2) := by decide +kernel
theorem dX6_event_23 : decode cX6_event 23 = .ok (.if_icmp .ne 6, 3) := by decide +kernel
theorem dX6_event_26 : decode cX6_event 26 = .ok (.bipush (-4), 2) := by decide +kernel
theorem dX6_event_28 : decode cX6_event 28 = .ok (.ireturn, 1) := by decide +kernel
theorem dX6_event_29 : decode cX6_event 29 = .ok (.aload_n 0, 1) := by decide +kernel
theorem dX6_event_30 : decode cX6_event 30 = .ok (.getfield 37, 3) := by decide +kernel
theorem dX6_event_33 : decode cX6_event 33 = .ok (.iconst 2, 1) := by decide +kernel
theorem dX6_event_34 : decode cX6_event 34 = .ok (.aload_n 0, 1) := by decide +kernel
theorem dX6_event_35 : decode cX6_event 35 = .ok (.getfield 184, 3) := by decide +kernel
theorem dX6_event_38 : decode cX6_event 38 = .ok (.imul, 1) := by decide +kernel
theorem dX6_event_39 : decode cX6_event 39 = .ok (.iload_n 1, 1) := by decide +kernel
theorem dX6_event_40 : decode cX6_event 40 = .ok (.iastore, 1) := by decide +kernel
theorem dX6_event_41 : decode cX6_event 41 = .ok (.aload_n 0, 1) := by decide +kernel
theorem dX6_event_42 : decode cX6_event 42 = .ok (.getfield 37, 3) := by decide +kernel
theorem dX6_event_45 : decode cX6_event 45 = .ok (.iconst 2, 1) := by decide +kernel
theorem dX6_event_46 : decode cX6_event 46 = .ok (.aload_n 0, 1) := by decide +kernel
theorem dX6_event_47 : decode cX6_event 47 = .ok (.getfield 184, 3) := by decide +kernel
theorem dX6_event_50 : decode cX6_event 50 = .ok (.imul, 1) := by decide +kernel
theorem dX6_event_51 : decode cX6_event 51 = .ok (.iconst 1, 1) := by decide +kernel
theorem dX6_event_52 : decode cX6_event 52 = .ok (.iadd, 1) := by decide +kernel
theorem dX6_event_53 : decode cX6_event 53 = .ok (.iload_n 2, 1) := by decide +kernel
theorem dX6_event_54 : decode cX6_event 54 = .ok (.iastore, 1) := by decide +kernel
theorem dX6_event_55 : decode cX6_event 55 = .ok (.aload_n 0, 1) := by decide +kernel
theorem dX6_event_56 : decode cX6_event 56 = .ok (.dup, 1) := by decide +kernel
theorem dX6_event_57 : decode cX6_event 57 = .ok (.getfield 184, 3) := by decide +kernel
theorem dX6_event_60 : decode cX6_event 60 = .ok (.iconst 1, 1) := by decide +kernel
theorem dX6_event_61 : decode cX6_event 61 = .ok (.iadd, 1) := by decide +kernel
theorem dX6_event_62 : decode cX6_event 62 = .ok (.putfield 184, 3) := by decide +kernel
theorem dX6_event_65 : decode cX6_event 65 = .ok (.aload_n 0, 1) := by decide +kernel
theorem dX6_event_66 : decode cX6_event 66 = .ok (.getfield 184, 3) := by decide +kernel
theorem dX6_event_69 : decode cX6_event 69 = .ok (.ireturn, 1) := by decide +kernel
theorem dX6_back_0 : decode cX6_back 0 = .ok (.aload_n 0, 1) := by decide +kernel
theorem dX6_back_1 : decode cX6_back 1 = .ok (.getfield 184, 3) := by decide +kernel
theorem dX6_back_4 : decode cX6_back 4 = .ok (.ifCond .ne 6, 3) := by decide +kernel
theorem dX6_back_7 : decode cX6_back 7 = .ok (.bipush (-3), 2) := by decide +kernel
theorem dX6_back_9 : decode cX6_back 9 = .ok (.ireturn, 1) := by decide +kernel
theorem dX6_back_10 : decode cX6_back 10 = .ok (.aload_n 0, 1) := by decide +kernel
theorem dX6_back_11 : decode cX6_back 11 = .ok (.dup, 1) := by decide +kernel
theorem dX6_back_12 : decode cX6_back 12 = .ok (.getfield 184, 3) := by decide +kernel
theorem dX6_back_15 : decode cX6_back 15 = .ok (.iconst 1, 1) := by decide +kernel
theorem dX6_back_16 : decode cX6_back 16 = .ok (.isub, 1) := by decide +kernel
theorem dX6_back_17 : decode cX6_back 17 = .ok (.putfield 184, 3) := by decide +kernel
theorem dX6_back_20 : decode cX6_back 20 = .ok (.aload_n 0, 1) := by decide +kernel
theorem dX6_back_21 : decode cX6_back 21 = .ok (.getfield 184, 3) := by decide +kernel
theorem dX6_back_24 : decode cX6_back 24 = .ok (.ireturn, 1) := by decide +kernel
theorem dX6_read_0 : decode cX6_read 0 = .ok (.iload_n 1, 1) := by decide +kernel
theorem dX6_read_1 : decode cX6_read 1 = .ok (.invokestatic 103, 3) := by decide +kernel
theorem dX6_read_4 : decode cX6_read 4 = .ok (.ifCond .ne 6, 3) := by decide +kernel
theorem dX6_read_7 : decode cX6_read 7 = .ok (.bipush (-2), 2) := by decide +kernel
theorem dX6_read_9 : decode cX6_read 9 = .ok (.ireturn, 1) := by decide +kernel
theorem dX6_read_10 : decode cX6_read 10 = .ok (.aload_n 0, 1) := by decide +kernel
theorem dX6_read_11 : decode cX6_read 11 = .ok (.getfield 7, 3) := by decide +kernel
theorem dX6_read_14 : decode cX6_read 14 = .ok (.iload_n 1, 1) := by decide +kernel
theorem dX6_read_15 : decode cX6_read 15 = .ok (.iaload, 1) := by decide +kernel
theorem dX6_read_16 : decode cX6_read 16 = .ok (.ifCond .ge 9, 3) := by decide +kernel
theorem dX6_read_19 : decode cX6_read 19 = .ok (.aload_n 0, 1) := by decide +kernel
theorem dX6_read_20 : decode cX6_read 20 = .ok (.iconst 1, 1) := by decide +kernel
theorem dX6_read_21 : decode cX6_read 21 = .ok (.invokevirtual 109, 3) := by decide +kernel
theorem dX6_read_24 : decode cX6_read 24 = .ok (.ireturn, 1) := by decide +kernel
theorem dX6_read_25 : decode cX6_read 25 = .ok (.iconst 0, 1) := by decide +kernel
theorem dX6_read_26 : decode cX6_read 26 = .ok (.istore_n 2, 1) := by decide +kernel
theorem dX6_read_27 : decode cX6_read 27 = .ok (.iconst 1, 1) := by decide +kernel
theorem dX6_read_28 : decode cX6_read 28 = .ok (.istore_n 3, 1) := by decide +kernel
theorem dX6_read_29 : decode cX6_read 29 = .ok (.iload_n 3, 1) := by decide +kernel
theorem dX6_read_30 : decode cX6_read 30 = .ok (.ifCond .eq 73, 3) := by decide +kernel
theorem dX6_read_33 : decode cX6_read 33 = .ok (.iconst 2, 1) := by decide +kernel
theorem dX6_read_34 : decode cX6_read 34 = .ok (.iload_n 2, 1) := by decide +kernel
theorem dX6_read_35 : decode cX6_read 35 = .ok (.imul, 1) := by decide +kernel
theorem dX6_read_36 : decode cX6_read 36 = .ok (.iconst 2, 1) := by decide +kernel
theorem dX6_read_37 : decode cX6_read 37 = .ok (.iadd, 1) := by decide +kernel
theorem dX6_read_38 : decode cX6_read 38 = .ok (.aload_n 0, 1) := by decide +kernel
theorem dX6_read_39 : decode cX6_read 39 = .ok (.getfield 13, 3) := by decide +kernel
theorem dX6_read_42 : decode cX6_read 42 = .ok (.iload_n 1, 1) := by decide +kernel
theorem dX6_read_43 : decode cX6_read 43 = .ok (.iaload, 1) := by decide +kernel
theorem dX6_read_44 : decode cX6_read 44 = .ok (.if_icmp .gt 59, 3) := by decide +kernel
theorem dX6_read_47 : decode cX6_read 47 = .ok (.aload_n 0, 1) := by decide +kernel
theorem dX6_read_48 : decode cX6_read 48 = .ok (.aload_n 0, 1) := by decide +kernel
theorem dX6_read_49 : decode cX6_read 49 = .ok (.getfield 16, 3) := by decide +kernel
theorem dX6_read_52 : decode cX6_read 52 = .ok (.bipush 60, 2) := by decide +kernel
theorem dX6_read_54 : decode cX6_read 54 = .ok (.iload_n 1, 1) := by decide +kernel
theorem dX6_read_55 : decode cX6_read 55 = .ok (.imul, 1) := by decide +kernel
theorem dX6_read_56 : decode cX6_read 56 = .ok (.iconst 2, 1) := by decide +kernel
theorem dX6_read_57 : decode cX6_read 57 = .ok (.iload_n 2, 1) := by decide +kernel
theorem dX6_read_58 : decode cX6_read 58 = .ok (.imul, 1) := by decide +kernel
theorem dX6_read_59 : decode cX6_read 59 = .ok (.iadd, 1) := by decide +kernel
theorem dX6_read_60 : decode cX6_read 60 = .ok (.iaload, 1) := by decide +kernel
theorem dX6_read_61 : decode cX6_read 61 = .ok (.aload_n 0, 1) := by decide +kernel
theorem dX6_read_62 : decode cX6_read 62 = .ok (.getfield 16, 3) := by decide +kernel
theorem dX6_read_65 : decode cX6_read 65 = .ok (.bipush 60, 2) := by decide +kernel
theorem dX6_read_67 : decode cX6_read 67 = .ok (.iload_n 1, 1) := by decide +kernel
theorem dX6_read_68 : decode cX6_read 68 = .ok (.imul, 1) := by decide +kernel
theorem dX6_read_69 : decode cX6_read 69 = .ok (.iconst 2, 1) := by decide +kernel
theorem dX6_read_70 : decode cX6_read 70 = .ok (.iload_n 2, 1) := by decide +kernel
theorem dX6_read_71 : decode cX6_read 71 = .ok (.imul, 1) := by decide +kernel
theorem dX6_read_72 : decode cX6_read 72 = .ok (.iadd, 1) := by decide +kernel
theorem dX6_read_73 : decode cX6_read 73 = .ok (.iconst 1, 1) := by decide +kernel
theorem dX6_read_74 : decode cX6_read 74 = .ok (.iadd, 1) := by decide +kernel
theorem dX6_read_75 : decode cX6_read 75 = .ok (.iaload, 1) := by decide +kernel
theorem dX6_read_76 : decode cX6_read 76 = .ok (.invokevirtual 187, 3) := by decide +kernel
theorem dX6_read_79 : decode cX6_read 79 = .ok (.ifCond .lt 7, 3) := by decide +kernel
theorem dX6_read_82 : decode cX6_read 82 = .ok (.iconst 1, 1) := by decide +kernel
theorem dX6_read_83 : decode cX6_read 83 = .ok (.goto 4, 3) := by decide +kernel
theorem dX6_read_86 : decode cX6_read 86 = .ok (.iconst 0, 1) := by decide +kernel
theorem dX6_read_87 : decode cX6_read 87 = .ok (.istore_n 3, 1) := by decide +kernel
theorem dX6_read_88 : decode cX6_read 88 = .ok (.iload_n 2, 1) := by decide +kernel
theorem dX6_read_89 : decode cX6_read 89 = .ok (.iload_n 3, 1) := by decide +kernel
theorem dX6_read_90 : decode cX6_read 90 = .ok (.ifCond .eq 7, 3) := by decide +kernel
theorem dX6_read_93 : decode cX6_read 93 = .ok (.iconst 1, 1) := by decide +kernel
theorem dX6_read_94 : decode cX6_read 94 = .ok (.goto 4, 3) := by decide +kernel
theorem dX6_read_97 : decode cX6_read 97 = .ok (.iconst 0, 1) := by decide +kernel
theorem dX6_read_98 : decode cX6_read 98 = .ok (.iadd, 1) := by decide +kernel
theorem dX6_read_99 : decode cX6_read 99 = .ok (.istore_n 2, 1) := by decide +kernel
theorem dX6_read_100 : decode cX6_read 100 = .ok (.goto (-71), 3) := by decide +kernel
theorem dX6_read_103 : decode cX6_read 103 = .ok (.iload_n 2, 1) := by decide +kernel
theorem dX6_read_104 : decode cX6_read 104 = .ok (.ireturn, 1) := by decide +kernel
theorem dX6_many_0 : decode cX6_many 0 = .ok (.iconst 0, 1) := by decide +kernel
theorem dX6_many_1 : decode cX6_many 1 = .ok (.istore_n 3, 1) := by decide +kernel
theorem dX6_many_2 : decode cX6_many 2 = .ok (.iconst 0, 1) := by decide +kernel
theorem dX6_many_3 : decode cX6_many 3 = .ok (.istore 4, 2) := by decide +kernel
theorem dX6_many_5 : decode cX6_many 5 = .ok (.iload 4, 2) := by decide +kernel
theorem dX6_many_7 : decode cX6_many 7 = .ok (.aload_n 0, 1) := by decide +kernel
theorem dX6_many_8 : decode cX6_many 8 = .ok (.getfield 184, 3) := by decide +kernel
theorem dX6_many_11 : decode cX6_many 11 = .ok (.if_icmp .ge 57, 3) := by decide +kernel
theorem dX6_many_14 : decode cX6_many 14 = .ok (.iload_n 3, 1) := by decide +kernel
theorem dX6_many_15 : decode cX6_many 15 = .ok (.aload_n 0, 1) := by decide +kernel
theorem dX6_many_16 : decode cX6_many 16 = .ok (.getfield 37, 3) := by decide +kernel
theorem dX6_many_19 : decode cX6_many 19 = .ok (.iconst 2, 1) := by decide +kernel
theorem dX6_many_20 : decode cX6_many 20 = .ok (.iload 4, 2) := by decide +kernel
theorem dX6_many_22 : decode cX6_many 22 = .ok (.imul, 1) := by decide +kernel
theorem dX6_many_23 : decode cX6_many 23 = .ok (.iaload, 1) := by decide +kernel
theorem dX6_many_24 : decode cX6_many 24 = .ok (.iload_n 1, 1) := by decide +kernel
theorem dX6_many_25 : decode cX6_many 25 = .ok (.if_icmp .ne 34, 3) := by decide +kernel
theorem dX6_many_28 : decode cX6_many 28 = .ok (.aload_n 0, 1) := by decide +kernel
theorem dX6_many_29 : decode cX6_many 29 = .ok (.getfield 37, 3) := by decide +kernel
theorem dX6_many_32 : decode cX6_many 32 = .ok (.iconst 2, 1) := by decide +kernel
theorem dX6_many_33 : decode cX6_many 33 = .ok (.iload 4, 2) := by decide +kernel
theorem dX6_many_35 : decode cX6_many 35 = .ok (.imul, 1) := by decide +kernel
theorem dX6_many_36 : decode cX6_many 36 = .ok (.iconst 1, 1) := by decide +kernel
theorem dX6_many_37 : decode cX6_many 37 = .ok (.iadd, 1) := by decide +kernel
theorem dX6_many_38 : decode cX6_many 38 = .ok (.iaload, 1) := by decide +kernel
theorem dX6_many_39 : decode cX6_many 39 = .ok (.iload_n 2, 1) := by decide +kernel
theorem dX6_many_40 : decode cX6_many 40 = .ok (.if_icmp .ne 19, 3) := by decide +kernel
theorem dX6_many_43 : decode cX6_many 43 = .ok (.aload_n 0, 1) := by decide +kernel
theorem dX6_many_44 : decode cX6_many 44 = .ok (.getfield 189, 3) := by decide +kernel
theorem dX6_many_47 : decode cX6_many 47 = .ok (.iload 4, 2) := by decide +kernel
theorem dX6_many_49 : decode cX6_many 49 = .ok (.invokestatic 192, 3) := by decide +kernel
theorem dX6_many_52 : decode cX6_many 52 = .ok (.ifCond .ne 7, 3) := by decide +kernel
theorem dX6_many_55 : decode cX6_many 55 = .ok (.iconst 1, 1) := by decide +kernel
theorem dX6_many_56 : decode cX6_many 56 = .ok (.goto 4, 3) := by decide +kernel
theorem dX6_many_59 : decode cX6_many 59 = .ok (.iconst 0, 1) := by decide +kernel
theorem dX6_many_60 : decode cX6_many 60 = .ok (.iadd, 1) := by decide +kernel
theorem dX6_many_61 : decode cX6_many 61 = .ok (.istore_n 3, 1) := by decide +kernel
theorem dX6_many_62 : decode cX6_many 62 = .ok (.iinc 4 1, 3) := by decide +kernel
theorem dX6_many_65 : decode cX6_many 65 = .ok (.goto (-60), 3) := by decide +kernel
theorem dX6_many_68 : decode cX6_many 68 = .ok (.iload_n 3, 1) := by decide +kernel
theorem dX6_many_69 : decode cX6_many 69 = .ok (.ireturn, 1) := by decide +kernel
theorem dX6_does_0 : decode cX6_does 0 = .ok (.aload_n 0, 1) := by decide +kernel
theorem dX6_does_1 : decode cX6_does 1 = .ok (.getfield 46, 3) := by decide +kernel
theorem dX6_does_4 : decode cX6_does 4 = .ok (.iload_n 2, 1) := by decide +kernel
theorem dX6_does_5 : decode cX6_does 5 = .ok (.iaload, 1) := by decide +kernel
theorem dX6_does_6 : decode cX6_does 6 = .ok (.iconst 2, 1) := by decide +kernel
theorem dX6_does_7 : decode cX6_does 7 = .ok (.irem, 1) := by decide +kernel
theorem dX6_does_8 : decode cX6_does 8 = .ok (.ifCond .ne 7, 3) := by decide +kernel
theorem dX6_does_11 : decode cX6_does 11 = .ok (.iconst 1, 1) := by decide +kernel
theorem dX6_does_12 : decode cX6_does 12 = .ok (.goto 4, 3) := by decide +kernel
theorem dX6_does_15 : decode cX6_does 15 = .ok (.iconst 0, 1) := by decide +kernel
theorem dX6_does_16 : decode cX6_does 16 = .ok (.istore_n 3, 1) := by decide +kernel
theorem dX6_does_17 : decode cX6_does 17 = .ok (.iload_n 3, 1) := by decide +kernel
theorem dX6_does_18 : decode cX6_does 18 = .ok (.ifCond .eq 14, 3) := by decide +kernel
theorem dX6_does_21 : decode cX6_does 21 = .ok (.aload_n 0, 1) := by decide +kernel
theorem dX6_does_22 : decode cX6_does 22 = .ok (.getfield 31, 3) := by decide +kernel
theorem dX6_does_25 : decode cX6_does 25 = .ok (.iconst 3, 1) := by decide +kernel
theorem dX6_does_26 : decode cX6_does 26 = .ok (.iload_n 2, 1) := by decide +kernel
theorem dX6_does_27 : decode cX6_does 27 = .ok (.imul, 1) := by decide +kernel
theorem dX6_does_28 : decode cX6_does 28 = .ok (.iaload, 1) := by decide +kernel
theorem dX6_does_29 : decode cX6_does 29 = .ok (.goto 13, 3) := by decide +kernel
theorem dX6_does_32 : decode cX6_does 32 = .ok (.aload_n 0, 1) := by decide +kernel
theorem dX6_does_33 : decode cX6_does 33 = .ok (.getfield 31, 3) := by decide +kernel
theorem dX6_does_36 : decode cX6_does 36 = .ok (.iconst 3, 1) := by decide +kernel
theorem dX6_does_37 : decode cX6_does 37 = .ok (.iload_n 2, 1) := by decide +kernel
theorem dX6_does_38 : decode cX6_does 38 = .ok (.imul, 1) := by decide +kernel
theorem dX6_does_39 : decode cX6_does 39 = .ok (.iconst 1, 1) := by decide +kernel
theorem dX6_does_40 : decode cX6_does 40 = .ok (.iadd, 1) := by decide +kernel
theorem dX6_does_41 : decode cX6_does 41 = .ok (.iaload, 1) := by decide +kernel
theorem dX6_does_42 : decode cX6_does 42 = .ok (.istore 4, 2) := by decide +kernel
theorem dX6_does_44 : decode cX6_does 44 = .ok (.iload_n 3, 1) := by decide +kernel
theorem dX6_does_45 : decode cX6_does 45 = .ok (.ifCond .eq 16, 3) := by decide +kernel
theorem dX6_does_48 : decode cX6_does 48 = .ok (.aload_n 0, 1) := by decide +kernel
theorem dX6_does_49 : decode cX6_does 49 = .ok (.getfield 31, 3) := by decide +kernel
theorem dX6_does_52 : decode cX6_does 52 = .ok (.iconst 3, 1) := by decide +kernel
theorem dX6_does_53 : decode cX6_does 53 = .ok (.iload_n 2, 1) := by decide +kernel
theorem dX6_does_54 : decode cX6_does 54 = .ok (.imul, 1) := by decide +kernel
theorem dX6_does_55 : decode cX6_does 55 = .ok (.iconst 1, 1) := by decide +kernel
theorem dX6_does_56 : decode cX6_does 56 = .ok (.iadd, 1) := by decide +kernel
theorem dX6_does_57 : decode cX6_does 57 = .ok (.iaload, 1) := by decide +kernel
theorem dX6_does_58 : decode cX6_does 58 = .ok (.goto 11, 3) := by decide +kernel
theorem dX6_does_61 : decode cX6_does 61 = .ok (.aload_n 0, 1) := by decide +kernel
theorem dX6_does_62 : decode cX6_does 62 = .ok (.getfield 31, 3) := by decide +kernel
theorem dX6_does_65 : decode cX6_does 65 = .ok (.iconst 3, 1) := by decide +kernel
theorem dX6_does_66 : decode cX6_does 66 = .ok (.iload_n 2, 1) := by decide +kernel
theorem dX6_does_67 : decode cX6_does 67 = .ok (.imul, 1) := by decide +kernel
theorem dX6_does_68 : decode cX6_does 68 = .ok (.iaload, 1) := by decide +kernel
theorem dX6_does_69 : decode cX6_does 69 = .ok (.istore 5, 2) := by decide +kernel
theorem dX6_does_71 : decode cX6_does 71 = .ok (.aload_n 0, 1) := by decide +kernel
theorem dX6_does_72 : decode cX6_does 72 = .ok (.getfield 40, 3) := by decide +kernel
theorem dX6_does_75 : decode cX6_does 75 = .ok (.iload_n 2, 1) := by decide +kernel
theorem dX6_does_76 : decode cX6_does 76 = .ok (.iconst 1, 1) := by decide +kernel
theorem dX6_does_77 : decode cX6_does 77 = .ok (.iastore, 1) := by decide +kernel
theorem dX6_does_78 : decode cX6_does 78 = .ok (.aload_n 0, 1) := by decide +kernel
theorem dX6_does_79 : decode cX6_does 79 = .ok (.getfield 28, 3) := by decide +kernel
theorem dX6_does_82 : decode cX6_does 82 = .ok (.iconst 2, 1) := by decide +kernel
theorem dX6_does_83 : decode cX6_does 83 = .ok (.iload 4, 2) := by decide +kernel
theorem dX6_does_85 : decode cX6_does 85 = .ok (.imul, 1) := by decide +kernel
theorem dX6_does_86 : decode cX6_does 86 = .ok (.iaload, 1) := by decide +kernel
theorem dX6_does_87 : decode cX6_does 87 = .ok (.iconst 1, 1) := by decide +kernel
theorem dX6_does_88 : decode cX6_does 88 = .ok (.if_icmp .ne 16, 3) := by decide +kernel
theorem dX6_does_91 : decode cX6_does 91 = .ok (.aload_n 0, 1) := by decide +kernel
theorem dX6_does_92 : decode cX6_does 92 = .ok (.getfield 43, 3) := by decide +kernel
theorem dX6_does_95 : decode cX6_does 95 = .ok (.iload_n 2, 1) := by decide +kernel
theorem dX6_does_96 : decode cX6_does 96 = .ok (.dup2, 1) := by decide +kernel
theorem dX6_does_97 : decode cX6_does 97 = .ok (.iaload, 1) := by decide +kernel
theorem dX6_does_98 : decode cX6_does 98 = .ok (.iconst 1, 1) := by decide +kernel
theorem dX6_does_99 : decode cX6_does 99 = .ok (.isub, 1) := by decide +kernel
theorem dX6_does_100 : decode cX6_does 100 = .ok (.iastore, 1) := by decide +kernel
theorem dX6_does_101 : decode cX6_does 101 = .ok (.goto 177, 3) := by decide +kernel
theorem dX6_does_104 : decode cX6_does 104 = .ok (.aload_n 0, 1) := by decide +kernel
theorem dX6_does_105 : decode cX6_does 105 = .ok (.getfield 196, 3) := by decide +kernel
theorem dX6_does_108 : decode cX6_does 108 = .ok (.ifCond .ne 64, 3) := by decide +kernel
theorem dX6_does_111 : decode cX6_does 111 = .ok (.aload_n 0, 1) := by decide +kernel
theorem dX6_does_112 : decode cX6_does 112 = .ok (.getfield 40, 3) := by decide +kernel
theorem dX6_does_115 : decode cX6_does 115 = .ok (.iload_n 2, 1) := by decide +kernel
theorem dX6_does_116 : decode cX6_does 116 = .ok (.iconst 2, 1) := by decide +kernel
theorem dX6_does_117 : decode cX6_does 117 = .ok (.iastore, 1) := by decide +kernel
theorem dX6_does_118 : decode cX6_does 118 = .ok (.aload_n 0, 1) := by decide +kernel
theorem dX6_does_119 : decode cX6_does 119 = .ok (.dup, 1) := by decide +kernel
theorem dX6_does_120 : decode cX6_does 120 = .ok (.getfield 199, 3) := by decide +kernel
theorem dX6_does_123 : decode cX6_does 123 = .ok (.iconst 1, 1) := by decide +kernel
theorem dX6_does_124 : decode cX6_does 124 = .ok (.iadd, 1) := by decide +kernel
theorem dX6_does_125 : decode cX6_does 125 = .ok (.putfield 199, 3) := by decide +kernel
theorem dX6_does_128 : decode cX6_does 128 = .ok (.aload_n 0, 1) := by decide +kernel
theorem dX6_does_129 : decode cX6_does 129 = .ok (.getfield 43, 3) := by decide +kernel
theorem dX6_does_132 : decode cX6_does 132 = .ok (.iload_n 2, 1) := by decide +kernel
theorem dX6_does_133 : decode cX6_does 133 = .ok (.aload_n 0, 1) := by decide +kernel
theorem dX6_does_134 : decode cX6_does 134 = .ok (.getfield 28, 3) := by decide +kernel
theorem dX6_does_137 : decode cX6_does 137 = .ok (.iconst 2, 1) := by decide +kernel
theorem dX6_does_138 : decode cX6_does 138 = .ok (.iload 4, 2) := by decide +kernel
theorem dX6_does_140 : decode cX6_does 140 = .ok (.imul, 1) := by decide +kernel
theorem dX6_does_141 : decode cX6_does 141 = .ok (.iaload, 1) := by decide +kernel
theorem dX6_does_142 : decode cX6_does 142 = .ok (.iconst 2, 1) := by decide +kernel
theorem dX6_does_143 : decode cX6_does 143 = .ok (.if_icmp .ne 19, 3) := by decide +kernel
theorem dX6_does_146 : decode cX6_does 146 = .ok (.aload_n 0, 1) := by decide +kernel
theorem dX6_does_147 : decode cX6_does 147 = .ok (.getfield 43, 3) := by decide +kernel
theorem dX6_does_150 : decode cX6_does 150 = .ok (.iload_n 2, 1) := by decide +kernel
theorem dX6_does_151 : decode cX6_does 151 = .ok (.iaload, 1) := by decide +kernel
theorem dX6_does_152 : decode cX6_does 152 = .ok (.iconst 1, 1) := by decide +kernel
theorem dX6_does_153 : decode cX6_does 153 = .ok (.iadd, 1) := by decide +kernel
theorem dX6_does_154 : decode cX6_does 154 = .ok (.bipush 18, 2) := by decide +kernel
theorem dX6_does_156 : decode cX6_does 156 = .ok (.invokestatic 202, 3) := by decide +kernel
theorem dX6_does_159 : decode cX6_does 159 = .ok (.goto 9, 3) := by decide +kernel
theorem dX6_does_162 : decode cX6_does 162 = .ok (.aload_n 0, 1) := by decide +kernel
theorem dX6_does_163 : decode cX6_does 163 = .ok (.getfield 43, 3) := by decide +kernel
theorem dX6_does_166 : decode cX6_does 166 = .ok (.iload_n 2, 1) := by decide +kernel
theorem dX6_does_167 : decode cX6_does 167 = .ok (.iaload, 1) := by decide +kernel
theorem dX6_does_168 : decode cX6_does 168 = .ok (.iastore, 1) := by decide +kernel
theorem dX6_does_169 : decode cX6_does 169 = .ok (.goto 109, 3) := by decide +kernel
theorem dX6_does_172 : decode cX6_does 172 = .ok (.aload_n 0, 1) := by decide +kernel
theorem dX6_does_173 : decode cX6_does 173 = .ok (.dup, 1) := by decide +kernel
theorem dX6_does_174 : decode cX6_does 174 = .ok (.getfield 196, 3) := by decide +kernel
theorem dX6_does_177 : decode cX6_does 177 = .ok (.iconst 1, 1) := by decide +kernel
theorem dX6_does_178 : decode cX6_does 178 = .ok (.isub, 1) := by decide +kernel
theorem dX6_does_179 : decode cX6_does 179 = .ok (.putfield 196, 3) := by decide +kernel
theorem dX6_does_182 : decode cX6_does 182 = .ok (.aload_n 0, 1) := by decide +kernel
theorem dX6_does_183 : decode cX6_does 183 = .ok (.getfield 46, 3) := by decide +kernel
theorem dX6_does_186 : decode cX6_does 186 = .ok (.iload_n 2, 1) := by decide +kernel
theorem dX6_does_187 : decode cX6_does 187 = .ok (.dup2, 1) := by decide +kernel
theorem dX6_does_188 : decode cX6_does 188 = .ok (.iaload, 1) := by decide +kernel
theorem dX6_does_189 : decode cX6_does 189 = .ok (.iconst 1, 1) := by decide +kernel
theorem dX6_does_190 : decode cX6_does 190 = .ok (.iadd, 1) := by decide +kernel
theorem dX6_does_191 : decode cX6_does 191 = .ok (.iastore, 1) := by decide +kernel
theorem dX6_does_192 : decode cX6_does 192 = .ok (.aload_n 0, 1) := by decide +kernel
theorem dX6_does_193 : decode cX6_does 193 = .ok (.getfield 55, 3) := by decide +kernel
theorem dX6_does_196 : decode cX6_does 196 = .ok (.iload 5, 2) := by decide +kernel
theorem dX6_does_198 : decode cX6_does 198 = .ok (.dup2, 1) := by decide +kernel
theorem dX6_does_199 : decode cX6_does 199 = .ok (.iaload, 1) := by decide +kernel
theorem dX6_does_200 : decode cX6_does 200 = .ok (.iconst 1, 1) := by decide +kernel
theorem dX6_does_201 : decode cX6_does 201 = .ok (.iadd, 1) := by decide +kernel
theorem dX6_does_202 : decode cX6_does 202 = .ok (.iastore, 1) := by decide +kernel
theorem dX6_does_203 : decode cX6_does 203 = .ok (.aload_n 0, 1) := by decide +kernel
theorem dX6_does_204 : decode cX6_does 204 = .ok (.getfield 58, 3) := by decide +kernel
theorem dX6_does_207 : decode cX6_does 207 = .ok (.iload 4, 2) := by decide +kernel
theorem dX6_does_209 : decode cX6_does 209 = .ok (.dup2, 1) := by decide +kernel
theorem dX6_does_210 : decode cX6_does 210 = .ok (.iaload, 1) := by decide +kernel
theorem dX6_does_211 : decode cX6_does 211 = .ok (.iconst 1, 1) := by decide +kernel
theorem dX6_does_212 : decode cX6_does 212 = .ok (.iadd, 1) := by decide +kernel
theorem dX6_does_213 : decode cX6_does 213 = .ok (.iastore, 1) := by decide +kernel
theorem dX6_does_214 : decode cX6_does 214 = .ok (.aload_n 0, 1) := by decide +kernel
theorem dX6_does_215 : decode cX6_does 215 = .ok (.getfield 52, 3) := by decide +kernel
theorem dX6_does_218 : decode cX6_does 218 = .ok (.iload 5, 2) := by decide +kernel
theorem dX6_does_220 : decode cX6_does 220 = .ok (.aload_n 0, 1) := by decide +kernel
theorem dX6_does_221 : decode cX6_does 221 = .ok (.getfield 52, 3) := by decide +kernel
theorem dX6_does_224 : decode cX6_does 224 = .ok (.iload 5, 2) := by decide +kernel
theorem dX6_does_226 : decode cX6_does 226 = .ok (.iaload, 1) := by decide +kernel
theorem dX6_does_227 : decode cX6_does 227 = .ok (.aload_n 0, 1) := by decide +kernel
theorem dX6_does_228 : decode cX6_does 228 = .ok (.getfield 28, 3) := by decide +kernel
theorem dX6_does_231 : decode cX6_does 231 = .ok (.iconst 2, 1) := by decide +kernel
theorem dX6_does_232 : decode cX6_does 232 = .ok (.iload 5, 2) := by decide +kernel
theorem dX6_does_234 : decode cX6_does 234 = .ok (.imul, 1) := by decide +kernel
theorem dX6_does_235 : decode cX6_does 235 = .ok (.iaload, 1) := by decide +kernel
theorem dX6_does_236 : decode cX6_does 236 = .ok (.ifCond .ne 7, 3) := by decide +kernel
theorem dX6_does_239 : decode cX6_does 239 = .ok (.iconst 2, 1) := by decide +kernel
theorem dX6_does_240 : decode cX6_does 240 = .ok (.goto 4, 3) := by decide +kernel
theorem dX6_does_243 : decode cX6_does 243 = .ok (.iconst 1, 1) := by decide +kernel
theorem dX6_does_244 : decode cX6_does 244 = .ok (.iadd, 1) := by decide +kernel
theorem dX6_does_245 : decode cX6_does 245 = .ok (.bipush 9, 2) := by decide +kernel
theorem dX6_does_247 : decode cX6_does 247 = .ok (.invokestatic 202, 3) := by decide +kernel
theorem dX6_does_250 : decode cX6_does 250 = .ok (.iastore, 1) := by decide +kernel
theorem dX6_does_251 : decode cX6_does 251 = .ok (.aload_n 0, 1) := by decide +kernel
theorem dX6_does_252 : decode cX6_does 252 = .ok (.getfield 43, 3) := by decide +kernel
theorem dX6_does_255 : decode cX6_does 255 = .ok (.iload_n 2, 1) := by decide +kernel
theorem dX6_does_256 : decode cX6_does 256 = .ok (.dup2, 1) := by decide +kernel
theorem dX6_does_257 : decode cX6_does 257 = .ok (.iaload, 1) := by decide +kernel
theorem dX6_does_258 : decode cX6_does 258 = .ok (.aload_n 0, 1) := by decide +kernel
theorem dX6_does_259 : decode cX6_does 259 = .ok (.getfield 28, 3) := by decide +kernel
theorem dX6_does_262 : decode cX6_does 262 = .ok (.iconst 2, 1) := by decide +kernel
theorem dX6_does_263 : decode cX6_does 263 = .ok (.iload 5, 2) := by decide +kernel
theorem dX6_does_265 : decode cX6_does 265 = .ok (.imul, 1) := by decide +kernel
theorem dX6_does_266 : decode cX6_does 266 = .ok (.iaload, 1) := by decide +kernel
theorem dX6_does_267 : decode cX6_does 267 = .ok (.iconst 1, 1) := by decide +kernel
theorem dX6_does_268 : decode cX6_does 268 = .ok (.if_icmp .ne 7, 3) := by decide +kernel
theorem dX6_does_271 : decode cX6_does 271 = .ok (.iconst 3, 1) := by decide +kernel
theorem dX6_does_272 : decode cX6_does 272 = .ok (.goto 4, 3) := by decide +kernel
theorem dX6_does_275 : decode cX6_does 275 = .ok (.iconst 1, 1) := by decide +kernel
theorem dX6_does_276 : decode cX6_does 276 = .ok (.isub, 1) := by decide +kernel
theorem dX6_does_277 : decode cX6_does 277 = .ok (.iastore, 1) := by decide +kernel
theorem dX6_does_278 : decode cX6_does 278 = .ok (.aload_n 0, 1) := by decide +kernel
theorem dX6_does_279 : decode cX6_does 279 = .ok (.getfield 43, 3) := by decide +kernel
theorem dX6_does_282 : decode cX6_does 282 = .ok (.iload_n 2, 1) := by decide +kernel
theorem dX6_does_283 : decode cX6_does 283 = .ok (.aload_n 0, 1) := by decide +kernel
theorem dX6_does_284 : decode cX6_does 284 = .ok (.getfield 43, 3) := by decide +kernel
theorem dX6_does_287 : decode cX6_does 287 = .ok (.iload_n 2, 1) := by decide +kernel
theorem dX6_does_288 : decode cX6_does 288 = .ok (.iaload, 1) := by decide +kernel
theorem dX6_does_289 : decode cX6_does 289 = .ok (.iconst 0, 1) := by decide +kernel
theorem dX6_does_290 : decode cX6_does 290 = .ok (.invokestatic 205, 3) := by decide +kernel
theorem dX6_does_293 : decode cX6_does 293 = .ok (.iastore, 1) := by decide +kernel
theorem dX6_does_294 : decode cX6_does 294 = .ok (.aload_n 0, 1) := by decide +kernel
theorem dX6_does_295 : decode cX6_does 295 = .ok (.getfield 43, 3) := by decide +kernel
theorem dX6_does_298 : decode cX6_does 298 = .ok (.iload_n 2, 1) := by decide +kernel
theorem dX6_does_299 : decode cX6_does 299 = .ok (.iaload, 1) := by decide +kernel
theorem dX6_does_300 : decode cX6_does 300 = .ok (.ifCond .eq 27, 3) := by decide +kernel
theorem dX6_does_303 : decode cX6_does 303 = .ok (.aload_n 0, 1) := by decide +kernel
theorem dX6_does_304 : decode cX6_does 304 = .ok (.getfield 52, 3) := by decide +kernel
theorem dX6_does_307 : decode cX6_does 307 = .ok (.iload 4, 2) := by decide +kernel
theorem dX6_does_309 : decode cX6_does 309 = .ok (.iaload, 1) := by decide +kernel
theorem dX6_does_310 : decode cX6_does 310 = .ok (.bipush 9, 2) := by decide +kernel
theorem dX6_does_312 : decode cX6_does 312 = .ok (.if_icmp .eq 15, 3) := by decide +kernel
theorem dX6_does_315 : decode cX6_does 315 = .ok (.aload_n 0, 1) := by decide +kernel
theorem dX6_does_316 : decode cX6_does 316 = .ok (.getfield 52, 3) := by decide +kernel
theorem dX6_does_319 : decode cX6_does 319 = .ok (.iload 5, 2) := by decide +kernel
theorem dX6_does_321 : decode cX6_does 321 = .ok (.iaload, 1) := by decide +kernel
theorem dX6_does_322 : decode cX6_does 322 = .ok (.bipush 9, 2) := by decide +kernel
theorem dX6_does_324 : decode cX6_does 324 = .ok (.if_icmp .ne 17, 3) := by decide +kernel
theorem dX6_does_327 : decode cX6_does 327 = .ok (.aload_n 0, 1) := by decide +kernel
theorem dX6_does_328 : decode cX6_does 328 = .ok (.getfield 40, 3) := by decide +kernel
theorem dX6_does_331 : decode cX6_does 331 = .ok (.iload_n 2, 1) := by decide +kernel
theorem dX6_does_332 : decode cX6_does 332 = .ok (.iconst 3, 1) := by decide +kernel
theorem dX6_does_333 : decode cX6_does 333 = .ok (.iastore, 1) := by decide +kernel
theorem dX6_does_334 : decode cX6_does 334 = .ok (.aload_n 0, 1) := by decide +kernel
theorem dX6_does_335 : decode cX6_does 335 = .ok (.getfield 49, 3) := by decide +kernel
theorem dX6_does_338 : decode cX6_does 338 = .ok (.iload_n 2, 1) := by decide +kernel
theorem dX6_does_339 : decode cX6_does 339 = .ok (.iload_n 1, 1) := by decide +kernel
theorem dX6_does_340 : decode cX6_does 340 = .ok (.iastore, 1) := by decide +kernel
theorem dX6_does_341 : decode cX6_does 341 = .ok (.return_, 1) := by decide +kernel
theorem dX6_passes_0 : decode cX6_passes 0 = .ok (.iconst 2, 1) := by decide +kernel
theorem dX6_passes_1 : decode cX6_passes 1 = .ok (.aload_n 0, 1) := by decide +kernel
theorem dX6_passes_2 : decode cX6_passes 2 = .ok (.iconst 0, 1) := by decide +kernel
theorem dX6_passes_3 : decode cX6_passes 3 = .ok (.iload_n 1, 1) := by decide +kernel
theorem dX6_passes_4 : decode cX6_passes 4 = .ok (.invokevirtual 208, 3) := by decide +kernel
theorem dX6_passes_7 : decode cX6_passes 7 = .ok (.imul, 1) := by decide +kernel
theorem dX6_passes_8 : decode cX6_passes 8 = .ok (.istore_n 2, 1) := by decide +kernel
theorem dX6_passes_9 : decode cX6_passes 9 = .ok (.iconst 0, 1) := by decide +kernel
theorem dX6_passes_10 : decode cX6_passes 10 = .ok (.istore_n 3, 1) := by decide +kernel
theorem dX6_passes_11 : decode cX6_passes 11 = .ok (.iload_n 3, 1) := by decide +kernel
theorem dX6_passes_12 : decode cX6_passes 12 = .ok (.aload_n 0, 1) := by decide +kernel
theorem dX6_passes_13 : decode cX6_passes 13 = .ok (.getfield 131, 3) := by decide +kernel
theorem dX6_passes_16 : decode cX6_passes 16 = .ok (.if_icmp .ge 27, 3) := by decide +kernel
theorem dX6_passes_19 : decode cX6_passes 19 = .ok (.aload_n 0, 1) := by decide +kernel
theorem dX6_passes_20 : decode cX6_passes 20 = .ok (.getfield 52, 3) := by decide +kernel
theorem dX6_passes_23 : decode cX6_passes 23 = .ok (.iload_n 3, 1) := by decide +kernel
theorem dX6_passes_24 : decode cX6_passes 24 = .ok (.aload_n 0, 1) := by decide +kernel
theorem dX6_passes_25 : decode cX6_passes 25 = .ok (.getfield 52, 3) := by decide +kernel
theorem dX6_passes_28 : decode cX6_passes 28 = .ok (.iload_n 3, 1) := by decide +kernel
theorem dX6_passes_29 : decode cX6_passes 29 = .ok (.iaload, 1) := by decide +kernel
theorem dX6_passes_30 : decode cX6_passes 30 = .ok (.iload_n 2, 1) := by decide +kernel
theorem dX6_passes_31 : decode cX6_passes 31 = .ok (.isub, 1) := by decide +kernel
theorem dX6_passes_32 : decode cX6_passes 32 = .ok (.iconst 0, 1) := by decide +kernel
theorem dX6_passes_33 : decode cX6_passes 33 = .ok (.invokestatic 205, 3) := by decide +kernel
theorem dX6_passes_36 : decode cX6_passes 36 = .ok (.iastore, 1) := by decide +kernel
theorem dX6_passes_37 : decode cX6_passes 37 = .ok (.iinc 3 1, 3) := by decide +kernel
theorem dX6_passes_40 : decode cX6_passes 40 = .ok (.goto (-29), 3) := by decide +kernel
theorem dX6_passes_43 : decode cX6_passes 43 = .ok (.aload_n 0, 1) := by decide +kernel
theorem dX6_passes_44 : decode cX6_passes 44 = .ok (.aload_n 0, 1) := by decide +kernel
theorem dX6_passes_45 : decode cX6_passes 45 = .ok (.iconst 1, 1) := by decide +kernel
theorem dX6_passes_46 : decode cX6_passes 46 = .ok (.iload_n 1, 1) := by decide +kernel
theorem dX6_passes_47 : decode cX6_passes 47 = .ok (.invokevirtual 208, 3) := by decide +kernel
theorem dX6_passes_50 : decode cX6_passes 50 = .ok (.ifCond .ne 22, 3) := by decide +kernel
theorem dX6_passes_53 : decode cX6_passes 53 = .ok (.aload_n 0, 1) := by decide +kernel
theorem dX6_passes_54 : decode cX6_passes 54 = .ok (.getfield 196, 3) := by decide +kernel
theorem dX6_passes_57 : decode cX6_passes 57 = .ok (.aload_n 0, 1) := by decide +kernel
theorem dX6_passes_58 : decode cX6_passes 58 = .ok (.getfield 34, 3) := by decide +kernel
theorem dX6_passes_61 : decode cX6_passes 61 = .ok (.iload_n 1, 1) := by decide +kernel
theorem dX6_passes_62 : decode cX6_passes 62 = .ok (.iaload, 1) := by decide +kernel
theorem dX6_passes_63 : decode cX6_passes 63 = .ok (.iadd, 1) := by decide +kernel
theorem dX6_passes_64 : decode cX6_passes 64 = .ok (.bipush 20, 2) := by decide +kernel
theorem dX6_passes_66 : decode cX6_passes 66 = .ok (.invokestatic 202, 3) := by decide +kernel
theorem dX6_passes_69 : decode cX6_passes 69 = .ok (.goto 7, 3) := by decide +kernel
theorem dX6_passes_72 : decode cX6_passes 72 = .ok (.aload_n 0, 1) := by decide +kernel
theorem dX6_passes_73 : decode cX6_passes 73 = .ok (.getfield 196, 3) := by decide +kernel
theorem dX6_passes_76 : decode cX6_passes 76 = .ok (.putfield 196, 3) := by decide +kernel
theorem dX6_passes_79 : decode cX6_passes 79 = .ok (.aload_n 0, 1) := by decide +kernel
theorem dX6_passes_80 : decode cX6_passes 80 = .ok (.aload_n 0, 1) := by decide +kernel
theorem dX6_passes_81 : decode cX6_passes 81 = .ok (.getfield 88, 3) := by decide +kernel
theorem dX6_passes_84 : decode cX6_passes 84 = .ok (.iload_n 1, 1) := by decide +kernel
theorem dX6_passes_85 : decode cX6_passes 85 = .ok (.if_icmp .ne 17, 3) := by decide +kernel
theorem dX6_passes_88 : decode cX6_passes 88 = .ok (.aload_n 0, 1) := by decide +kernel
theorem dX6_passes_89 : decode cX6_passes 89 = .ok (.getfield 196, 3) := by decide +kernel
theorem dX6_passes_92 : decode cX6_passes 92 = .ok (.iconst 5, 1) := by decide +kernel
theorem dX6_passes_93 : decode cX6_passes 93 = .ok (.iadd, 1) := by decide +kernel
theorem dX6_passes_94 : decode cX6_passes 94 = .ok (.bipush 20, 2) := by decide +kernel
theorem dX6_passes_96 : decode cX6_passes 96 = .ok (.invokestatic 202, 3) := by decide +kernel
theorem dX6_passes_99 : decode cX6_passes 99 = .ok (.goto 7, 3) := by decide +kernel
theorem dX6_passes_102 : decode cX6_passes 102 = .ok (.aload_n 0, 1) := by decide +kernel
theorem dX6_passes_103 : decode cX6_passes 103 = .ok (.getfield 196, 3) := by decide +kernel
theorem dX6_passes_106 : decode cX6_passes 106 = .ok (.putfield 196, 3) := by decide +kernel
theorem dX6_passes_109 : decode cX6_passes 109 = .ok (.iconst 0, 1) := by decide +kernel
theorem dX6_passes_110 : decode cX6_passes 110 = .ok (.istore_n 3, 1) := by decide +kernel
theorem dX6_passes_111 : decode cX6_passes 111 = .ok (.iload_n 3, 1) := by decide +kernel
theorem dX6_passes_112 : decode cX6_passes 112 = .ok (.aload_n 0, 1) := by decide +kernel
theorem dX6_passes_113 : decode cX6_passes 113 = .ok (.getfield 145, 3) := by decide +kernel
theorem dX6_passes_116 : decode cX6_passes 116 = .ok (.if_icmp .ge 39, 3) := by decide +kernel
theorem dX6_passes_119 : decode cX6_passes 119 = .ok (.aload_n 0, 1) := by decide +kernel
theorem dX6_passes_120 : decode cX6_passes 120 = .ok (.getfield 40, 3) := by decide +kernel
theorem dX6_passes_123 : decode cX6_passes 123 = .ok (.iload_n 3, 1) := by decide +kernel
theorem dX6_passes_124 : decode cX6_passes 124 = .ok (.iaload, 1) := by decide +kernel
theorem dX6_passes_125 : decode cX6_passes 125 = .ok (.iconst 3, 1) := by decide +kernel
theorem dX6_passes_126 : decode cX6_passes 126 = .ok (.if_icmp .ge 23, 3) := by decide +kernel
theorem dX6_passes_129 : decode cX6_passes 129 = .ok (.aload_n 0, 1) := by decide +kernel
theorem dX6_passes_130 : decode cX6_passes 130 = .ok (.getfield 31, 3) := by decide +kernel
theorem dX6_passes_133 : decode cX6_passes 133 = .ok (.iconst 3, 1) := by decide +kernel
theorem dX6_passes_134 : decode cX6_passes 134 = .ok (.iload_n 3, 1) := by decide +kernel
theorem dX6_passes_135 : decode cX6_passes 135 = .ok (.imul, 1) := by decide +kernel
theorem dX6_passes_136 : decode cX6_passes 136 = .ok (.iconst 2, 1) := by decide +kernel
theorem dX6_passes_137 : decode cX6_passes 137 = .ok (.iadd, 1) := by decide +kernel
theorem dX6_passes_138 : decode cX6_passes 138 = .ok (.iaload, 1) := by decide +kernel
theorem dX6_passes_139 : decode cX6_passes 139 = .ok (.iload_n 1, 1) := by decide +kernel
theorem dX6_passes_140 : decode cX6_passes 140 = .ok (.if_icmp .gt 9, 3) := by decide +kernel
theorem dX6_passes_143 : decode cX6_passes 143 = .ok (.aload_n 0, 1) := by decide +kernel
theorem dX6_passes_144 : decode cX6_passes 144 = .ok (.iload_n 1, 1) := by decide +kernel
theorem dX6_passes_145 : decode cX6_passes 145 = .ok (.iload_n 3, 1) := by decide +kernel
theorem dX6_passes_146 : decode cX6_passes 146 = .ok (.invokevirtual 211, 3) := by decide +kernel
theorem dX6_passes_149 : decode cX6_passes 149 = .ok (.iinc 3 1, 3) := by decide +kernel
theorem dX6_passes_152 : decode cX6_passes 152 = .ok (.goto (-41), 3) := by decide +kernel
theorem dX6_passes_155 : decode cX6_passes 155 = .ok (.iconst 0, 1) := by decide +kernel
theorem dX6_passes_156 : decode cX6_passes 156 = .ok (.istore_n 3, 1) := by decide +kernel
theorem dX6_passes_157 : decode cX6_passes 157 = .ok (.iload_n 3, 1) := by decide +kernel
theorem dX6_passes_158 : decode cX6_passes 158 = .ok (.bipush 8, 2) := by decide +kernel
theorem dX6_passes_160 : decode cX6_passes 160 = .ok (.if_icmp .ge 111, 3) := by decide +kernel
theorem dX6_passes_163 : decode cX6_passes 163 = .ok (.aload_n 0, 1) := by decide +kernel
theorem dX6_passes_164 : decode cX6_passes 164 = .ok (.getfield 61, 3) := by decide +kernel
theorem dX6_passes_167 : decode cX6_passes 167 = .ok (.bipush 8, 2) := by decide +kernel
theorem dX6_passes_169 : decode cX6_passes 169 = .ok (.iload_n 1, 1) := by decide +kernel
theorem dX6_passes_170 : decode cX6_passes 170 = .ok (.imul, 1) := by decide +kernel
theorem dX6_passes_171 : decode cX6_passes 171 = .ok (.iload_n 3, 1) := by decide +kernel
theorem dX6_passes_172 : decode cX6_passes 172 = .ok (.iadd, 1) := by decide +kernel
theorem dX6_passes_173 : decode cX6_passes 173 = .ok (.aload_n 0, 1) := by decide +kernel
theorem dX6_passes_174 : decode cX6_passes 174 = .ok (.getfield 40, 3) := by decide +kernel
theorem dX6_passes_177 : decode cX6_passes 177 = .ok (.iload_n 3, 1) := by decide +kernel
theorem dX6_passes_178 : decode cX6_passes 178 = .ok (.iaload, 1) := by decide +kernel
theorem dX6_passes_179 : decode cX6_passes 179 = .ok (.iastore, 1) := by decide +kernel
theorem dX6_passes_180 : decode cX6_passes 180 = .ok (.aload_n 0, 1) := by decide +kernel
theorem dX6_passes_181 : decode cX6_passes 181 = .ok (.getfield 64, 3) := by decide +kernel
theorem dX6_passes_184 : decode cX6_passes 184 = .ok (.bipush 8, 2) := by decide +kernel
theorem dX6_passes_186 : decode cX6_passes 186 = .ok (.iload_n 1, 1) := by decide +kernel
theorem dX6_passes_187 : decode cX6_passes 187 = .ok (.imul, 1) := by decide +kernel
theorem dX6_passes_188 : decode cX6_passes 188 = .ok (.iload_n 3, 1) := by decide +kernel
theorem dX6_passes_189 : decode cX6_passes 189 = .ok (.iadd, 1) := by decide +kernel
theorem dX6_passes_190 : decode cX6_passes 190 = .ok (.aload_n 0, 1) := by decide +kernel
theorem dX6_passes_191 : decode cX6_passes 191 = .ok (.getfield 43, 3) := by decide +kernel
theorem dX6_passes_194 : decode cX6_passes 194 = .ok (.iload_n 3, 1) := by decide +kernel
theorem dX6_passes_195 : decode cX6_passes 195 = .ok (.iaload, 1) := by decide +kernel
theorem dX6_passes_196 : decode cX6_passes 196 = .ok (.iastore, 1) := by decide +kernel
theorem dX6_passes_197 : decode cX6_passes 197 = .ok (.aload_n 0, 1) := by decide +kernel
theorem dX6_passes_198 : decode cX6_passes 198 = .ok (.getfield 67, 3) := by decide +kernel
theorem dX6_passes_201 : decode cX6_passes 201 = .ok (.bipush 8, 2) := by decide +kernel
theorem dX6_passes_203 : decode cX6_passes 203 = .ok (.iload_n 1, 1) := by decide +kernel
theorem dX6_passes_204 : decode cX6_passes 204 = .ok (.imul, 1) := by decide +kernel
theorem dX6_passes_205 : decode cX6_passes 205 = .ok (.iload_n 3, 1) := by decide +kernel
theorem dX6_passes_206 : decode cX6_passes 206 = .ok (.iadd, 1) := by decide +kernel
theorem dX6_passes_207 : decode cX6_passes 207 = .ok (.aload_n 0, 1) := by decide +kernel
theorem dX6_passes_208 : decode cX6_passes 208 = .ok (.getfield 46, 3) := by decide +kernel
theorem dX6_passes_211 : decode cX6_passes 211 = .ok (.iload_n 3, 1) := by decide +kernel
theorem dX6_passes_212 : decode cX6_passes 212 = .ok (.iaload, 1) := by decide +kernel
theorem dX6_passes_213 : decode cX6_passes 213 = .ok (.iastore, 1) := by decide +kernel
theorem dX6_passes_214 : decode cX6_passes 214 = .ok (.aload_n 0, 1) := by decide +kernel
theorem dX6_passes_215 : decode cX6_passes 215 = .ok (.getfield 70, 3) := by decide +kernel
theorem dX6_passes_218 : decode cX6_passes 218 = .ok (.bipush 8, 2) := by decide +kernel
theorem dX6_passes_220 : decode cX6_passes 220 = .ok (.iload_n 1, 1) := by decide +kernel
theorem dX6_passes_221 : decode cX6_passes 221 = .ok (.imul, 1) := by decide +kernel
theorem dX6_passes_222 : decode cX6_passes 222 = .ok (.iload_n 3, 1) := by decide +kernel
theorem dX6_passes_223 : decode cX6_passes 223 = .ok (.iadd, 1) := by decide +kernel
theorem dX6_passes_224 : decode cX6_passes 224 = .ok (.aload_n 0, 1) := by decide +kernel
theorem dX6_passes_225 : decode cX6_passes 225 = .ok (.getfield 52, 3) := by decide +kernel
theorem dX6_passes_228 : decode cX6_passes 228 = .ok (.iload_n 3, 1) := by decide +kernel
theorem dX6_passes_229 : decode cX6_passes 229 = .ok (.iaload, 1) := by decide +kernel
theorem dX6_passes_230 : decode cX6_passes 230 = .ok (.iastore, 1) := by decide +kernel
theorem dX6_passes_231 : decode cX6_passes 231 = .ok (.aload_n 0, 1) := by decide +kernel
theorem dX6_passes_232 : decode cX6_passes 232 = .ok (.getfield 73, 3) := by decide +kernel
theorem dX6_passes_235 : decode cX6_passes 235 = .ok (.bipush 8, 2) := by decide +kernel
theorem dX6_passes_237 : decode cX6_passes 237 = .ok (.iload_n 1, 1) := by decide +kernel
theorem dX6_passes_238 : decode cX6_passes 238 = .ok (.imul, 1) := by decide +kernel
theorem dX6_passes_239 : decode cX6_passes 239 = .ok (.iload_n 3, 1) := by decide +kernel
theorem dX6_passes_240 : decode cX6_passes 240 = .ok (.iadd, 1) := by decide +kernel
theorem dX6_passes_241 : decode cX6_passes 241 = .ok (.aload_n 0, 1) := by decide +kernel
theorem dX6_passes_242 : decode cX6_passes 242 = .ok (.getfield 55, 3) := by decide +kernel
theorem dX6_passes_245 : decode cX6_passes 245 = .ok (.iload_n 3, 1) := by decide +kernel
theorem dX6_passes_246 : decode cX6_passes 246 = .ok (.iaload, 1) := by decide +kernel
theorem dX6_passes_247 : decode cX6_passes 247 = .ok (.iastore, 1) := by decide +kernel
theorem dX6_passes_248 : decode cX6_passes 248 = .ok (.aload_n 0, 1) := by decide +kernel
theorem dX6_passes_249 : decode cX6_passes 249 = .ok (.getfield 76, 3) := by decide +kernel
theorem dX6_passes_252 : decode cX6_passes 252 = .ok (.bipush 8, 2) := by decide +kernel
theorem dX6_passes_254 : decode cX6_passes 254 = .ok (.iload_n 1, 1) := by decide +kernel
theorem dX6_passes_255 : decode cX6_passes 255 = .ok (.imul, 1) := by decide +kernel
theorem dX6_passes_256 : decode cX6_passes 256 = .ok (.iload_n 3, 1) := by decide +kernel
theorem dX6_passes_257 : decode cX6_passes 257 = .ok (.iadd, 1) := by decide +kernel
theorem dX6_passes_258 : decode cX6_passes 258 = .ok (.aload_n 0, 1) := by decide +kernel
theorem dX6_passes_259 : decode cX6_passes 259 = .ok (.getfield 58, 3) := by decide +kernel
theorem dX6_passes_262 : decode cX6_passes 262 = .ok (.iload_n 3, 1) := by decide +kernel
theorem dX6_passes_263 : decode cX6_passes 263 = .ok (.iaload, 1) := by decide +kernel
theorem dX6_passes_264 : decode cX6_passes 264 = .ok (.iastore, 1) := by decide +kernel
theorem dX6_passes_265 : decode cX6_passes 265 = .ok (.iinc 3 1, 3) := by decide +kernel
theorem dX6_passes_268 : decode cX6_passes 268 = .ok (.goto (-111), 3) := by decide +kernel
theorem dX6_passes_271 : decode cX6_passes 271 = .ok (.aload_n 0, 1) := by decide +kernel
theorem dX6_passes_272 : decode cX6_passes 272 = .ok (.getfield 79, 3) := by decide +kernel
theorem dX6_passes_275 : decode cX6_passes 275 = .ok (.iload_n 1, 1) := by decide +kernel
theorem dX6_passes_276 : decode cX6_passes 276 = .ok (.aload_n 0, 1) := by decide +kernel
theorem dX6_passes_277 : decode cX6_passes 277 = .ok (.getfield 196, 3) := by decide +kernel
theorem dX6_passes_280 : decode cX6_passes 280 = .ok (.iastore, 1) := by decide +kernel
theorem dX6_passes_281 : decode cX6_passes 281 = .ok (.return_, 1) := by decide +kernel
theorem dX6_lives_0 : decode cX6_lives 0 = .ok (.iconst 0, 1) := by decide +kernel
theorem dX6_lives_1 : decode cX6_lives 1 = .ok (.istore_n 1, 1) := by decide +kernel
theorem dX6_lives_2 : decode cX6_lives 2 = .ok (.iload_n 1, 1) := by decide +kernel
theorem dX6_lives_3 : decode cX6_lives 3 = .ok (.bipush 8, 2) := by decide +kernel
theorem dX6_lives_5 : decode cX6_lives 5 = .ok (.if_icmp .ge 152, 3) := by decide +kernel
theorem dX6_lives_8 : decode cX6_lives 8 = .ok (.aload_n 0, 1) := by decide +kernel
theorem dX6_lives_9 : decode cX6_lives 9 = .ok (.getfield 52, 3) := by decide +kernel
theorem dX6_lives_12 : decode cX6_lives 12 = .ok (.iload_n 1, 1) := by decide +kernel
theorem dX6_lives_13 : decode cX6_lives 13 = .ok (.iconst 0, 1) := by decide +kernel
theorem dX6_lives_14 : decode cX6_lives 14 = .ok (.iastore, 1) := by decide +kernel
theorem dX6_lives_15 : decode cX6_lives 15 = .ok (.aload_n 0, 1) := by decide +kernel
theorem dX6_lives_16 : decode cX6_lives 16 = .ok (.getfield 55, 3) := by decide +kernel
theorem dX6_lives_19 : decode cX6_lives 19 = .ok (.iload_n 1, 1) := by decide +kernel
theorem dX6_lives_20 : decode cX6_lives 20 = .ok (.iconst 0, 1) := by decide +kernel
theorem dX6_lives_21 : decode cX6_lives 21 = .ok (.iastore, 1) := by decide +kernel
theorem dX6_lives_22 : decode cX6_lives 22 = .ok (.aload_n 0, 1) := by decide +kernel
theorem dX6_lives_23 : decode cX6_lives 23 = .ok (.getfield 58, 3) := by decide +kernel
theorem dX6_lives_26 : decode cX6_lives 26 = .ok (.iload_n 1, 1) := by decide +kernel
theorem dX6_lives_27 : decode cX6_lives 27 = .ok (.iconst 0, 1) := by decide +kernel
theorem dX6_lives_28 : decode cX6_lives 28 = .ok (.iastore, 1) := by decide +kernel
theorem dX6_lives_29 : decode cX6_lives 29 = .ok (.aload_n 0, 1) := by decide +kernel
theorem dX6_lives_30 : decode cX6_lives 30 = .ok (.getfield 46, 3) := by decide +kernel
theorem dX6_lives_33 : decode cX6_lives 33 = .ok (.iload_n 1, 1) := by decide +kernel
theorem dX6_lives_34 : decode cX6_lives 34 = .ok (.iconst 0, 1) := by decide +kernel
theorem dX6_lives_35 : decode cX6_lives 35 = .ok (.iastore, 1) := by decide +kernel
theorem dX6_lives_36 : decode cX6_lives 36 = .ok (.aload_n 0, 1) := by decide +kernel
theorem dX6_lives_37 : decode cX6_lives 37 = .ok (.getfield 49, 3) := by decide +kernel
theorem dX6_lives_40 : decode cX6_lives 40 = .ok (.iload_n 1, 1) := by decide +kernel
theorem dX6_lives_41 : decode cX6_lives 41 = .ok (.iconst (-1), 1) := by decide +kernel
theorem dX6_lives_42 : decode cX6_lives 42 = .ok (.iastore, 1) := by decide +kernel
theorem dX6_lives_43 : decode cX6_lives 43 = .ok (.aload_n 0, 1) := by decide +kernel
theorem dX6_lives_44 : decode cX6_lives 44 = .ok (.getfield 31, 3) := by decide +kernel
theorem dX6_lives_47 : decode cX6_lives 47 = .ok (.iconst 3, 1) := by decide +kernel
theorem dX6_lives_48 : decode cX6_lives 48 = .ok (.iload_n 1, 1) := by decide +kernel
theorem dX6_lives_49 : decode cX6_lives 49 = .ok (.imul, 1) := by decide +kernel
theorem dX6_lives_50 : decode cX6_lives 50 = .ok (.iaload, 1) := by decide +kernel
theorem dX6_lives_51 : decode cX6_lives 51 = .ok (.istore_n 2, 1) := by decide +kernel
theorem dX6_lives_52 : decode cX6_lives 52 = .ok (.aload_n 0, 1) := by decide +kernel
theorem dX6_lives_53 : decode cX6_lives 53 = .ok (.getfield 31, 3) := by decide +kernel
theorem dX6_lives_56 : decode cX6_lives 56 = .ok (.iconst 3, 1) := by decide +kernel
theorem dX6_lives_57 : decode cX6_lives 57 = .ok (.iload_n 1, 1) := by decide +kernel
theorem dX6_lives_58 : decode cX6_lives 58 = .ok (.imul, 1) := by decide +kernel
theorem dX6_lives_59 : decode cX6_lives 59 = .ok (.iconst 1, 1) := by decide +kernel
theorem dX6_lives_60 : decode cX6_lives 60 = .ok (.iadd, 1) := by decide +kernel
theorem dX6_lives_61 : decode cX6_lives 61 = .ok (.iaload, 1) := by decide +kernel
theorem dX6_lives_62 : decode cX6_lives 62 = .ok (.istore_n 3, 1) := by decide +kernel
theorem dX6_lives_63 : decode cX6_lives 63 = .ok (.iload_n 1, 1) := by decide +kernel
theorem dX6_lives_64 : decode cX6_lives 64 = .ok (.aload_n 0, 1) := by decide +kernel
theorem dX6_lives_65 : decode cX6_lives 65 = .ok (.getfield 145, 3) := by decide +kernel
theorem dX6_lives_68 : decode cX6_lives 68 = .ok (.if_icmp .ge 28, 3) := by decide +kernel
theorem dX6_lives_71 : decode cX6_lives 71 = .ok (.aload_n 0, 1) := by decide +kernel
theorem dX6_lives_72 : decode cX6_lives 72 = .ok (.iload_n 2, 1) := by decide +kernel
theorem dX6_lives_73 : decode cX6_lives 73 = .ok (.invokevirtual 172, 3) := by decide +kernel
theorem dX6_lives_76 : decode cX6_lives 76 = .ok (.ifCond .eq 20, 3) := by decide +kernel
theorem dX6_lives_79 : decode cX6_lives 79 = .ok (.aload_n 0, 1) := by decide +kernel
theorem dX6_lives_80 : decode cX6_lives 80 = .ok (.iload_n 3, 1) := by decide +kernel
theorem dX6_lives_81 : decode cX6_lives 81 = .ok (.invokevirtual 172, 3) := by decide +kernel
theorem dX6_lives_84 : decode cX6_lives 84 = .ok (.ifCond .eq 12, 3) := by decide +kernel
theorem dX6_lives_87 : decode cX6_lives 87 = .ok (.iload_n 2, 1) := by decide +kernel
theorem dX6_lives_88 : decode cX6_lives 88 = .ok (.iload_n 3, 1) := by decide +kernel
theorem dX6_lives_89 : decode cX6_lives 89 = .ok (.if_icmp .eq 7, 3) := by decide +kernel
theorem dX6_lives_92 : decode cX6_lives 92 = .ok (.iconst 1, 1) := by decide +kernel
theorem dX6_lives_93 : decode cX6_lives 93 = .ok (.goto 4, 3) := by decide +kernel
theorem dX6_lives_96 : decode cX6_lives 96 = .ok (.iconst 0, 1) := by decide +kernel
theorem dX6_lives_97 : decode cX6_lives 97 = .ok (.istore 4, 2) := by decide +kernel
theorem dX6_lives_99 : decode cX6_lives 99 = .ok (.aload_n 0, 1) := by decide +kernel
theorem dX6_lives_100 : decode cX6_lives 100 = .ok (.getfield 40, 3) := by decide +kernel
theorem dX6_lives_103 : decode cX6_lives 103 = .ok (.iload_n 1, 1) := by decide +kernel
theorem dX6_lives_104 : decode cX6_lives 104 = .ok (.iload 4, 2) := by decide +kernel
theorem dX6_lives_106 : decode cX6_lives 106 = .ok (.ifCond .eq 7, 3) := by decide +kernel
theorem dX6_lives_109 : decode cX6_lives 109 = .ok (.iconst 0, 1) := by decide +kernel
theorem dX6_lives_110 : decode cX6_lives 110 = .ok (.goto 4, 3) := by decide +kernel
theorem dX6_lives_113 : decode cX6_lives 113 = .ok (.iconst 4, 1) := by decide +kernel
theorem dX6_lives_114 : decode cX6_lives 114 = .ok (.iastore, 1) := by decide +kernel
theorem dX6_lives_115 : decode cX6_lives 115 = .ok (.aload_n 0, 1) := by decide +kernel
theorem dX6_lives_116 : decode cX6_lives 116 = .ok (.getfield 43, 3) := by decide +kernel
theorem dX6_lives_119 : decode cX6_lives 119 = .ok (.iload_n 1, 1) := by decide +kernel
theorem dX6_lives_120 : decode cX6_lives 120 = .ok (.iload 4, 2) := by decide +kernel
theorem dX6_lives_122 : decode cX6_lives 122 = .ok (.ifCond .eq 27, 3) := by decide +kernel
theorem dX6_lives_125 : decode cX6_lives 125 = .ok (.aload_n 0, 1) := by decide +kernel
theorem dX6_lives_126 : decode cX6_lives 126 = .ok (.getfield 28, 3) := by decide +kernel
theorem dX6_lives_129 : decode cX6_lives 129 = .ok (.iconst 2, 1) := by decide +kernel
theorem dX6_lives_130 : decode cX6_lives 130 = .ok (.iload_n 2, 1) := by decide +kernel
theorem dX6_lives_131 : decode cX6_lives 131 = .ok (.imul, 1) := by decide +kernel
theorem dX6_lives_132 : decode cX6_lives 132 = .ok (.iconst 1, 1) := by decide +kernel
theorem dX6_lives_133 : decode cX6_lives 133 = .ok (.iadd, 1) := by decide +kernel
theorem dX6_lives_134 : decode cX6_lives 134 = .ok (.iaload, 1) := by decide +kernel
theorem dX6_lives_135 : decode cX6_lives 135 = .ok (.aload_n 0, 1) := by decide +kernel
theorem dX6_lives_136 : decode cX6_lives 136 = .ok (.getfield 28, 3) := by decide +kernel
theorem dX6_lives_139 : decode cX6_lives 139 = .ok (.iconst 2, 1) := by decide +kernel
theorem dX6_lives_140 : decode cX6_lives 140 = .ok (.iload_n 3, 1) := by decide +kernel
theorem dX6_lives_141 : decode cX6_lives 141 = .ok (.imul, 1) := by decide +kernel
theorem dX6_lives_142 : decode cX6_lives 142 = .ok (.iconst 1, 1) := by decide +kernel
theorem dX6_lives_143 : decode cX6_lives 143 = .ok (.iadd, 1) := by decide +kernel
theorem dX6_lives_144 : decode cX6_lives 144 = .ok (.iaload, 1) := by decide +kernel
theorem dX6_lives_145 : decode cX6_lives 145 = .ok (.iadd, 1) := by decide +kernel
theorem dX6_lives_146 : decode cX6_lives 146 = .ok (.goto 4, 3) := by decide +kernel
theorem dX6_lives_149 : decode cX6_lives 149 = .ok (.iconst 0, 1) := by decide +kernel
theorem dX6_lives_150 : decode cX6_lives 150 = .ok (.iastore, 1) := by decide +kernel
theorem dX6_lives_151 : decode cX6_lives 151 = .ok (.iinc 1 1, 3) := by decide +kernel
theorem dX6_lives_154 : decode cX6_lives 154 = .ok (.goto (-152), 3) := by decide +kernel
theorem dX6_lives_157 : decode cX6_lives 157 = .ok (.aload_n 0, 1) := by decide +kernel
theorem dX6_lives_158 : decode cX6_lives 158 = .ok (.iconst 0, 1) := by decide +kernel
theorem dX6_lives_159 : decode cX6_lives 159 = .ok (.putfield 196, 3) := by decide +kernel
theorem dX6_lives_162 : decode cX6_lives 162 = .ok (.aload_n 0, 1) := by decide +kernel
theorem dX6_lives_163 : decode cX6_lives 163 = .ok (.iconst 0, 1) := by decide +kernel
theorem dX6_lives_164 : decode cX6_lives 164 = .ok (.putfield 199, 3) := by decide +kernel
theorem dX6_lives_167 : decode cX6_lives 167 = .ok (.iconst 0, 1) := by decide +kernel
theorem dX6_lives_168 : decode cX6_lives 168 = .ok (.istore_n 1, 1) := by decide +kernel
theorem dX6_lives_169 : decode cX6_lives 169 = .ok (.iload_n 1, 1) := by decide +kernel
theorem dX6_lives_170 : decode cX6_lives 170 = .ok (.bipush 24, 2) := by decide +kernel
theorem dX6_lives_172 : decode cX6_lives 172 = .ok (.if_icmp .ge 14, 3) := by decide +kernel
theorem dX6_lives_175 : decode cX6_lives 175 = .ok (.aload_n 0, 1) := by decide +kernel
theorem dX6_lives_176 : decode cX6_lives 176 = .ok (.iload_n 1, 1) := by decide +kernel
theorem dX6_lives_177 : decode cX6_lives 177 = .ok (.invokevirtual 215, 3) := by decide +kernel
theorem dX6_lives_180 : decode cX6_lives 180 = .ok (.iinc 1 1, 3) := by decide +kernel
theorem dX6_lives_183 : decode cX6_lives 183 = .ok (.goto (-14), 3) := by decide +kernel
theorem dX6_lives_186 : decode cX6_lives 186 = .ok (.return_, 1) := by decide +kernel
theorem dX6_find_0 : decode cX6_find 0 = .ok (.aload_n 0, 1) := by decide +kernel
theorem dX6_find_1 : decode cX6_find 1 = .ok (.invokevirtual 157, 3) := by decide +kernel
theorem dX6_find_4 : decode cX6_find 4 = .ok (.pop, 1) := by decide +kernel
theorem dX6_find_5 : decode cX6_find 5 = .ok (.aload_n 0, 1) := by decide +kernel
theorem dX6_find_6 : decode cX6_find 6 = .ok (.invokevirtual 161, 3) := by decide +kernel
theorem dX6_find_9 : decode cX6_find 9 = .ok (.pop, 1) := by decide +kernel
theorem dX6_find_10 : decode cX6_find 10 = .ok (.aload_n 0, 1) := by decide +kernel
theorem dX6_find_11 : decode cX6_find 11 = .ok (.invokevirtual 164, 3) := by decide +kernel
theorem dX6_find_14 : decode cX6_find 14 = .ok (.pop, 1) := by decide +kernel
theorem dX6_find_15 : decode cX6_find 15 = .ok (.aload_n 0, 1) := by decide +kernel
theorem dX6_find_16 : decode cX6_find 16 = .ok (.invokevirtual 219, 3) := by decide +kernel
theorem dX6_find_19 : decode cX6_find 19 = .ok (.return_, 1) := by decide +kernel
theorem dX6_standsBy_0 : decode cX6_standsBy 0 = .ok (.bipush 8, 2) := by decide +kernel
theorem dX6_standsBy_2 : decode cX6_standsBy 2 = .ok (.iload_n 1, 1) := by decide +kernel
theorem dX6_standsBy_3 : decode cX6_standsBy 3 = .ok (.imul, 1) := by decide +kernel
theorem dX6_standsBy_4 : decode cX6_standsBy 4 = .ok (.iload_n 2, 1) := by decide +kernel
theorem dX6_standsBy_5 : decode cX6_standsBy 5 = .ok (.iadd, 1) := by decide +kernel
theorem dX6_standsBy_6 : decode cX6_standsBy 6 = .ok (.istore 4, 2) := by decide +kernel
theorem dX6_standsBy_8 : decode cX6_standsBy 8 = .ok (.iload_n 3, 1) := by decide +kernel
theorem dX6_standsBy_9 : decode cX6_standsBy 9 = .ok (.ifCond .ne 13, 3) := by decide +kernel
theorem dX6_standsBy_12 : decode cX6_standsBy 12 = .ok (.aload_n 0, 1) := by decide +kernel
theorem dX6_standsBy_13 : decode cX6_standsBy 13 = .ok (.getfield 61, 3) := by decide +kernel
theorem dX6_standsBy_16 : decode cX6_standsBy 16 = .ok (.iload 4, 2) := by decide +kernel
theorem dX6_standsBy_18 : decode cX6_standsBy 18 = .ok (.iaload, 1) := by decide +kernel
theorem dX6_standsBy_19 : decode cX6_standsBy 19 = .ok (.goto 25, 3) := by decide +kernel
theorem dX6_standsBy_22 : decode cX6_standsBy 22 = .ok (.iload_n 3, 1) := by decide +kernel
theorem dX6_standsBy_23 : decode cX6_standsBy 23 = .ok (.iconst 1, 1) := by decide +kernel
theorem dX6_standsBy_24 : decode cX6_standsBy 24 = .ok (.if_icmp .ne 13, 3) := by decide +kernel
theorem dX6_standsBy_27 : decode cX6_standsBy 27 = .ok (.aload_n 0, 1) := by decide +kernel
theorem dX6_standsBy_28 : decode cX6_standsBy 28 = .ok (.getfield 64, 3) := by decide +kernel
theorem dX6_standsBy_31 : decode cX6_standsBy 31 = .ok (.iload 4, 2) := by decide +kernel
theorem dX6_standsBy_33 : decode cX6_standsBy 33 = .ok (.iaload, 1) := by decide +kernel
theorem dX6_standsBy_34 : decode cX6_standsBy 34 = .ok (.goto 10, 3) := by decide +kernel
theorem dX6_standsBy_37 : decode cX6_standsBy 37 = .ok (.aload_n 0, 1) := by decide +kernel
theorem dX6_standsBy_38 : decode cX6_standsBy 38 = .ok (.getfield 67, 3) := by decide +kernel
theorem dX6_standsBy_41 : decode cX6_standsBy 41 = .ok (.iload 4, 2) := by decide +kernel
theorem dX6_standsBy_43 : decode cX6_standsBy 43 = .ok (.iaload, 1) := by decide +kernel
theorem dX6_standsBy_44 : decode cX6_standsBy 44 = .ok (.ireturn, 1) := by decide +kernel
theorem dX6_stands_0 : decode cX6_stands 0 = .ok (.aload_n 0, 1) := by decide +kernel
theorem dX6_stands_1 : decode cX6_stands 1 = .ok (.invokevirtual 222, 3) := by decide +kernel
theorem dX6_stands_4 : decode cX6_stands 4 = .ok (.iload_n 1, 1) := by decide +kernel
theorem dX6_stands_5 : decode cX6_stands 5 = .ok (.invokestatic 181, 3) := by decide +kernel
theorem dX6_stands_8 : decode cX6_stands 8 = .ok (.ifCond .eq 33, 3) := by decide +kernel
theorem dX6_stands_11 : decode cX6_stands 11 = .ok (.aload_n 0, 1) := by decide +kernel
theorem dX6_stands_12 : decode cX6_stands 12 = .ok (.iload_n 2, 1) := by decide +kernel
theorem dX6_stands_13 : decode cX6_stands 13 = .ok (.invokevirtual 178, 3) := by decide +kernel
theorem dX6_stands_16 : decode cX6_stands 16 = .ok (.ifCond .eq 25, 3) := by decide +kernel
theorem dX6_stands_19 : decode cX6_stands 19 = .ok (.iload_n 3, 1) := by decide +kernel
theorem dX6_stands_20 : decode cX6_stands 20 = .ok (.i2l, 1) := by decide +kernel
theorem dX6_stands_21 : decode cX6_stands 21 = .ok (.lconst 0, 1) := by decide +kernel
theorem dX6_stands_22 : decode cX6_stands 22 = .ok (.ldc2_w 107, 3) := by decide +kernel
theorem dX6_stands_25 : decode cX6_stands 25 = .ok (.invokestatic 94, 3) := by decide +kernel
theorem dX6_stands_28 : decode cX6_stands 28 = .ok (.ifCond .eq 13, 3) := by decide +kernel
theorem dX6_stands_31 : decode cX6_stands 31 = .ok (.aload_n 0, 1) := by decide +kernel
theorem dX6_stands_32 : decode cX6_stands 32 = .ok (.iload_n 1, 1) := by decide +kernel
theorem dX6_stands_33 : decode cX6_stands 33 = .ok (.iload_n 2, 1) := by decide +kernel
theorem dX6_stands_34 : decode cX6_stands 34 = .ok (.iload_n 3, 1) := by decide +kernel
theorem dX6_stands_35 : decode cX6_stands 35 = .ok (.invokevirtual 225, 3) := by decide +kernel
theorem dX6_stands_38 : decode cX6_stands 38 = .ok (.goto 5, 3) := by decide +kernel
theorem dX6_stands_41 : decode cX6_stands 41 = .ok (.bipush (-2), 2) := by decide +kernel
theorem dX6_stands_43 : decode cX6_stands 43 = .ok (.ireturn, 1) := by decide +kernel
theorem dX6_atBy_0 : decode cX6_atBy 0 = .ok (.bipush 8, 2) := by decide +kernel
theorem dX6_atBy_2 : decode cX6_atBy 2 = .ok (.iload_n 1, 1) := by decide +kernel
theorem dX6_atBy_3 : decode cX6_atBy 3 = .ok (.imul, 1) := by decide +kernel
theorem dX6_atBy_4 : decode cX6_atBy 4 = .ok (.iload_n 2, 1) := by decide +kernel
theorem dX6_atBy_5 : decode cX6_atBy 5 = .ok (.iadd, 1) := by decide +kernel
theorem dX6_atBy_6 : decode cX6_atBy 6 = .ok (.istore 4, 2) := by decide +kernel
theorem dX6_atBy_8 : decode cX6_atBy 8 = .ok (.iload_n 3, 1) := by decide +kernel
theorem dX6_atBy_9 : decode cX6_atBy 9 = .ok (.ifCond .ne 13, 3) := by decide +kernel
theorem dX6_atBy_12 : decode cX6_atBy 12 = .ok (.aload_n 0, 1) := by decide +kernel
theorem dX6_atBy_13 : decode cX6_atBy 13 = .ok (.getfield 70, 3) := by decide +kernel
theorem dX6_atBy_16 : decode cX6_atBy 16 = .ok (.iload 4, 2) := by decide +kernel
theorem dX6_atBy_18 : decode cX6_atBy 18 = .ok (.iaload, 1) := by decide +kernel
theorem dX6_atBy_19 : decode cX6_atBy 19 = .ok (.goto 25, 3) := by decide +kernel
theorem dX6_atBy_22 : decode cX6_atBy 22 = .ok (.iload_n 3, 1) := by decide +kernel
theorem dX6_atBy_23 : decode cX6_atBy 23 = .ok (.iconst 1, 1) := by decide +kernel
theorem dX6_atBy_24 : decode cX6_atBy 24 = .ok (.if_icmp .ne 13, 3) := by decide +kernel
theorem dX6_atBy_27 : decode cX6_atBy 27 = .ok (.aload_n 0, 1) := by decide +kernel
theorem dX6_atBy_28 : decode cX6_atBy 28 = .ok (.getfield 73, 3) := by decide +kernel
theorem dX6_atBy_31 : decode cX6_atBy 31 = .ok (.iload 4, 2) := by decide +kernel
theorem dX6_atBy_33 : decode cX6_atBy 33 = .ok (.iaload, 1) := by decide +kernel
theorem dX6_atBy_34 : decode cX6_atBy 34 = .ok (.goto 10, 3) := by decide +kernel
theorem dX6_atBy_37 : decode cX6_atBy 37 = .ok (.aload_n 0, 1) := by decide +kernel
theorem dX6_atBy_38 : decode cX6_atBy 38 = .ok (.getfield 76, 3) := by decide +kernel
theorem dX6_atBy_41 : decode cX6_atBy 41 = .ok (.iload 4, 2) := by decide +kernel
theorem dX6_atBy_43 : decode cX6_atBy 43 = .ok (.iaload, 1) := by decide +kernel
theorem dX6_atBy_44 : decode cX6_atBy 44 = .ok (.ireturn, 1) := by decide +kernel
theorem dX6_at_0 : decode cX6_at 0 = .ok (.aload_n 0, 1) := by decide +kernel
theorem dX6_at_1 : decode cX6_at 1 = .ok (.invokevirtual 222, 3) := by decide +kernel
theorem dX6_at_4 : decode cX6_at 4 = .ok (.iload_n 1, 1) := by decide +kernel
theorem dX6_at_5 : decode cX6_at 5 = .ok (.invokestatic 181, 3) := by decide +kernel
theorem dX6_at_8 : decode cX6_at 8 = .ok (.ifCond .eq 33, 3) := by decide +kernel
theorem dX6_at_11 : decode cX6_at 11 = .ok (.aload_n 0, 1) := by decide +kernel
theorem dX6_at_12 : decode cX6_at 12 = .ok (.iload_n 2, 1) := by decide +kernel
theorem dX6_at_13 : decode cX6_at 13 = .ok (.invokevirtual 172, 3) := by decide +kernel
theorem dX6_at_16 : decode cX6_at 16 = .ok (.ifCond .eq 25, 3) := by decide +kernel
theorem dX6_at_19 : decode cX6_at 19 = .ok (.iload_n 3, 1) := by decide +kernel
theorem dX6_at_20 : decode cX6_at 20 = .ok (.i2l, 1) := by decide +kernel
theorem dX6_at_21 : decode cX6_at 21 = .ok (.lconst 0, 1) := by decide +kernel
theorem dX6_at_22 : decode cX6_at 22 = .ok (.ldc2_w 107, 3) := by decide +kernel
theorem dX6_at_25 : decode cX6_at 25 = .ok (.invokestatic 94, 3) := by decide +kernel
theorem dX6_at_28 : decode cX6_at 28 = .ok (.ifCond .eq 13, 3) := by decide +kernel
theorem dX6_at_31 : decode cX6_at 31 = .ok (.aload_n 0, 1) := by decide +kernel
theorem dX6_at_32 : decode cX6_at 32 = .ok (.iload_n 1, 1) := by decide +kernel
theorem dX6_at_33 : decode cX6_at 33 = .ok (.iload_n 2, 1) := by decide +kernel
theorem dX6_at_34 : decode cX6_at 34 = .ok (.iload_n 3, 1) := by decide +kernel
theorem dX6_at_35 : decode cX6_at 35 = .ok (.invokevirtual 228, 3) := by decide +kernel
theorem dX6_at_38 : decode cX6_at 38 = .ok (.goto 5, 3) := by decide +kernel
theorem dX6_at_41 : decode cX6_at 41 = .ok (.bipush (-2), 2) := by decide +kernel
theorem dX6_at_43 : decode cX6_at 43 = .ok (.ireturn, 1) := by decide +kernel
theorem dX6_stockOf_0 : decode cX6_stockOf 0 = .ok (.iconst 0, 1) := by decide +kernel
theorem dX6_stockOf_1 : decode cX6_stockOf 1 = .ok (.istore_n 3, 1) := by decide +kernel
theorem dX6_stockOf_2 : decode cX6_stockOf 2 = .ok (.iconst 0, 1) := by decide +kernel
theorem dX6_stockOf_3 : decode cX6_stockOf 3 = .ok (.istore 4, 2) := by decide +kernel
theorem dX6_stockOf_5 : decode cX6_stockOf 5 = .ok (.iload 4, 2) := by decide +kernel
theorem dX6_stockOf_7 : decode cX6_stockOf 7 = .ok (.aload_n 0, 1) := by decide +kernel
theorem dX6_stockOf_8 : decode cX6_stockOf 8 = .ok (.getfield 145, 3) := by decide +kernel
theorem dX6_stockOf_11 : decode cX6_stockOf 11 = .ok (.if_icmp .ge 40, 3) := by decide +kernel
theorem dX6_stockOf_14 : decode cX6_stockOf 14 = .ok (.iload_n 3, 1) := by decide +kernel
theorem dX6_stockOf_15 : decode cX6_stockOf 15 = .ok (.aload_n 0, 1) := by decide +kernel
theorem dX6_stockOf_16 : decode cX6_stockOf 16 = .ok (.getfield 61, 3) := by decide +kernel
theorem dX6_stockOf_19 : decode cX6_stockOf 19 = .ok (.bipush 8, 2) := by decide +kernel
theorem dX6_stockOf_21 : decode cX6_stockOf 21 = .ok (.iload_n 1, 1) := by decide +kernel
theorem dX6_stockOf_22 : decode cX6_stockOf 22 = .ok (.imul, 1) := by decide +kernel
theorem dX6_stockOf_23 : decode cX6_stockOf 23 = .ok (.iload 4, 2) := by decide +kernel
theorem dX6_stockOf_25 : decode cX6_stockOf 25 = .ok (.iadd, 1) := by decide +kernel
theorem dX6_stockOf_26 : decode cX6_stockOf 26 = .ok (.iaload, 1) := by decide +kernel
theorem dX6_stockOf_27 : decode cX6_stockOf 27 = .ok (.i2l, 1) := by decide +kernel
theorem dX6_stockOf_28 : decode cX6_stockOf 28 = .ok (.lconst 1, 1) := by decide +kernel
theorem dX6_stockOf_29 : decode cX6_stockOf 29 = .ok (.ldc2_w 107, 3) := by decide +kernel
theorem dX6_stockOf_32 : decode cX6_stockOf 32 = .ok (.invokestatic 94, 3) := by decide +kernel
theorem dX6_stockOf_35 : decode cX6_stockOf 35 = .ok (.ifCond .eq 7, 3) := by decide +kernel
theorem dX6_stockOf_38 : decode cX6_stockOf 38 = .ok (.iconst 1, 1) := by decide +kernel
theorem dX6_stockOf_39 : decode cX6_stockOf 39 = .ok (.goto 4, 3) := by decide +kernel
theorem dX6_stockOf_42 : decode cX6_stockOf 42 = .ok (.iconst 0, 1) := by decide +kernel
theorem dX6_stockOf_43 : decode cX6_stockOf 43 = .ok (.iadd, 1) := by decide +kernel
theorem dX6_stockOf_44 : decode cX6_stockOf 44 = .ok (.istore_n 3, 1) := by decide +kernel
theorem dX6_stockOf_45 : decode cX6_stockOf 45 = .ok (.iinc 4 1, 3) := by decide +kernel
theorem dX6_stockOf_48 : decode cX6_stockOf 48 = .ok (.goto (-43), 3) := by decide +kernel
theorem dX6_stockOf_51 : decode cX6_stockOf 51 = .ok (.iload_n 2, 1) := by decide +kernel
theorem dX6_stockOf_52 : decode cX6_stockOf 52 = .ok (.ifCond .ne 12, 3) := by decide +kernel
theorem dX6_stockOf_55 : decode cX6_stockOf 55 = .ok (.aload_n 0, 1) := by decide +kernel
theorem dX6_stockOf_56 : decode cX6_stockOf 56 = .ok (.getfield 79, 3) := by decide +kernel
theorem dX6_stockOf_59 : decode cX6_stockOf 59 = .ok (.iload_n 1, 1) := by decide +kernel
theorem dX6_stockOf_60 : decode cX6_stockOf 60 = .ok (.iaload, 1) := by decide +kernel
theorem dX6_stockOf_61 : decode cX6_stockOf 61 = .ok (.goto 4, 3) := by decide +kernel
theorem dX6_stockOf_64 : decode cX6_stockOf 64 = .ok (.iload_n 3, 1) := by decide +kernel
theorem dX6_stockOf_65 : decode cX6_stockOf 65 = .ok (.ireturn, 1) := by decide +kernel
theorem dX6_stock_0 : decode cX6_stock 0 = .ok (.aload_n 0, 1) := by decide +kernel
theorem dX6_stock_1 : decode cX6_stock 1 = .ok (.invokevirtual 222, 3) := by decide +kernel
theorem dX6_stock_4 : decode cX6_stock 4 = .ok (.iload_n 1, 1) := by decide +kernel
theorem dX6_stock_5 : decode cX6_stock 5 = .ok (.invokestatic 181, 3) := by decide +kernel
theorem dX6_stock_8 : decode cX6_stock 8 = .ok (.ifCond .eq 19, 3) := by decide +kernel
theorem dX6_stock_11 : decode cX6_stock 11 = .ok (.iload_n 2, 1) := by decide +kernel
theorem dX6_stock_12 : decode cX6_stock 12 = .ok (.invokestatic 175, 3) := by decide +kernel
theorem dX6_stock_15 : decode cX6_stock 15 = .ok (.ifCond .eq 12, 3) := by decide +kernel
theorem dX6_stock_18 : decode cX6_stock 18 = .ok (.aload_n 0, 1) := by decide +kernel
theorem dX6_stock_19 : decode cX6_stock 19 = .ok (.iload_n 1, 1) := by decide +kernel
theorem dX6_stock_20 : decode cX6_stock 20 = .ok (.iload_n 2, 1) := by decide +kernel
theorem dX6_stock_21 : decode cX6_stock 21 = .ok (.invokevirtual 231, 3) := by decide +kernel
theorem dX6_stock_24 : decode cX6_stock 24 = .ok (.goto 5, 3) := by decide +kernel
theorem dX6_stock_27 : decode cX6_stock 27 = .ok (.bipush (-2), 2) := by decide +kernel
theorem dX6_stock_29 : decode cX6_stock 29 = .ok (.ireturn, 1) := by decide +kernel
theorem dX6_over_0 : decode cX6_over 0 = .ok (.aload_n 0, 1) := by decide +kernel
theorem dX6_over_1 : decode cX6_over 1 = .ok (.invokevirtual 222, 3) := by decide +kernel
theorem dX6_over_4 : decode cX6_over 4 = .ok (.aload_n 0, 1) := by decide +kernel
theorem dX6_over_5 : decode cX6_over 5 = .ok (.iload_n 1, 1) := by decide +kernel
theorem dX6_over_6 : decode cX6_over 6 = .ok (.invokevirtual 178, 3) := by decide +kernel
theorem dX6_over_9 : decode cX6_over 9 = .ok (.ifCond .eq 12, 3) := by decide +kernel
theorem dX6_over_12 : decode cX6_over 12 = .ok (.aload_n 0, 1) := by decide +kernel
theorem dX6_over_13 : decode cX6_over 13 = .ok (.getfield 49, 3) := by decide +kernel
theorem dX6_over_16 : decode cX6_over 16 = .ok (.iload_n 1, 1) := by decide +kernel
theorem dX6_over_17 : decode cX6_over 17 = .ok (.iaload, 1) := by decide +kernel
theorem dX6_over_18 : decode cX6_over 18 = .ok (.goto 5, 3) := by decide +kernel
theorem dX6_over_21 : decode cX6_over 21 = .ok (.bipush (-2), 2) := by decide +kernel
theorem dX6_over_23 : decode cX6_over 23 = .ok (.ireturn, 1) := by decide +kernel
theorem dX6_mistBy_0 : decode cX6_mistBy 0 = .ok (.iconst 0, 1) := by decide +kernel
theorem dX6_mistBy_1 : decode cX6_mistBy 1 = .ok (.istore_n 2, 1) := by decide +kernel
theorem dX6_mistBy_2 : decode cX6_mistBy 2 = .ok (.iload_n 2, 1) := by decide +kernel
theorem dX6_mistBy_3 : decode cX6_mistBy 3 = .ok (.bipush 24, 2) := by decide +kernel
theorem dX6_mistBy_5 : decode cX6_mistBy 5 = .ok (.if_icmp .ge 51, 3) := by decide +kernel
theorem dX6_mistBy_8 : decode cX6_mistBy 8 = .ok (.iconst 0, 1) := by decide +kernel
theorem dX6_mistBy_9 : decode cX6_mistBy 9 = .ok (.istore_n 3, 1) := by decide +kernel
theorem dX6_mistBy_10 : decode cX6_mistBy 10 = .ok (.iload_n 3, 1) := by decide +kernel
theorem dX6_mistBy_11 : decode cX6_mistBy 11 = .ok (.aload_n 0, 1) := by decide +kernel
theorem dX6_mistBy_12 : decode cX6_mistBy 12 = .ok (.getfield 131, 3) := by decide +kernel
theorem dX6_mistBy_15 : decode cX6_mistBy 15 = .ok (.if_icmp .ge 35, 3) := by decide +kernel
theorem dX6_mistBy_18 : decode cX6_mistBy 18 = .ok (.aload_n 0, 1) := by decide +kernel
theorem dX6_mistBy_19 : decode cX6_mistBy 19 = .ok (.getfield 70, 3) := by decide +kernel
theorem dX6_mistBy_22 : decode cX6_mistBy 22 = .ok (.bipush 8, 2) := by decide +kernel
theorem dX6_mistBy_24 : decode cX6_mistBy 24 = .ok (.iload_n 2, 1) := by decide +kernel
theorem dX6_mistBy_25 : decode cX6_mistBy 25 = .ok (.imul, 1) := by decide +kernel
theorem dX6_mistBy_26 : decode cX6_mistBy 26 = .ok (.iload_n 3, 1) := by decide +kernel
theorem dX6_mistBy_27 : decode cX6_mistBy 27 = .ok (.iadd, 1) := by decide +kernel
theorem dX6_mistBy_28 : decode cX6_mistBy 28 = .ok (.iaload, 1) := by decide +kernel
theorem dX6_mistBy_29 : decode cX6_mistBy 29 = .ok (.bipush 9, 2) := by decide +kernel
theorem dX6_mistBy_31 : decode cX6_mistBy 31 = .ok (.if_icmp .ne 13, 3) := by decide +kernel
theorem dX6_mistBy_34 : decode cX6_mistBy 34 = .ok (.iload_n 1, 1) := by decide +kernel
theorem dX6_mistBy_35 : decode cX6_mistBy 35 = .ok (.ifCond .ne 7, 3) := by decide +kernel
theorem dX6_mistBy_38 : decode cX6_mistBy 38 = .ok (.iload_n 2, 1) := by decide +kernel
theorem dX6_mistBy_39 : decode cX6_mistBy 39 = .ok (.goto 4, 3) := by decide +kernel
theorem dX6_mistBy_42 : decode cX6_mistBy 42 = .ok (.iload_n 3, 1) := by decide +kernel
theorem dX6_mistBy_43 : decode cX6_mistBy 43 = .ok (.ireturn, 1) := by decide +kernel
theorem dX6_mistBy_44 : decode cX6_mistBy 44 = .ok (.iinc 3 1, 3) := by decide +kernel
theorem dX6_mistBy_47 : decode cX6_mistBy 47 = .ok (.goto (-37), 3) := by decide +kernel
theorem dX6_mistBy_50 : decode cX6_mistBy 50 = .ok (.iinc 2 1, 3) := by decide +kernel
theorem dX6_mistBy_53 : decode cX6_mistBy 53 = .ok (.goto (-51), 3) := by decide +kernel
theorem dX6_mistBy_56 : decode cX6_mistBy 56 = .ok (.iconst (-1), 1) := by decide +kernel
theorem dX6_mistBy_57 : decode cX6_mistBy 57 = .ok (.ireturn, 1) := by decide +kernel
theorem dX6_mist_0 : decode cX6_mist 0 = .ok (.aload_n 0, 1) := by decide +kernel
theorem dX6_mist_1 : decode cX6_mist 1 = .ok (.invokevirtual 222, 3) := by decide +kernel
theorem dX6_mist_4 : decode cX6_mist 4 = .ok (.iload_n 1, 1) := by decide +kernel
theorem dX6_mist_5 : decode cX6_mist 5 = .ok (.invokestatic 175, 3) := by decide +kernel
theorem dX6_mist_8 : decode cX6_mist 8 = .ok (.ifCond .eq 11, 3) := by decide +kernel
theorem dX6_mist_11 : decode cX6_mist 11 = .ok (.aload_n 0, 1) := by decide +kernel
theorem dX6_mist_12 : decode cX6_mist 12 = .ok (.iload_n 1, 1) := by decide +kernel
theorem dX6_mist_13 : decode cX6_mist 13 = .ok (.invokevirtual 234, 3) := by decide +kernel
theorem dX6_mist_16 : decode cX6_mist 16 = .ok (.goto 5, 3) := by decide +kernel
theorem dX6_mist_19 : decode cX6_mist 19 = .ok (.bipush (-2), 2) := by decide +kernel
theorem dX6_mist_21 : decode cX6_mist 21 = .ok (.ireturn, 1) := by decide +kernel
theorem dX6_waste_0 : decode cX6_waste 0 = .ok (.aload_n 0, 1) := by decide +kernel
theorem dX6_waste_1 : decode cX6_waste 1 = .ok (.invokevirtual 222, 3) := by decide +kernel
theorem dX6_waste_4 : decode cX6_waste 4 = .ok (.aload_n 0, 1) := by decide +kernel
theorem dX6_waste_5 : decode cX6_waste 5 = .ok (.getfield 199, 3) := by decide +kernel
theorem dX6_waste_8 : decode cX6_waste 8 = .ok (.ireturn, 1) := by decide +kernel
theorem dX6_goldestNow_0 : decode cX6_goldestNow 0 = .ok (.iconst (-1), 1) := by decide +kernel
theorem dX6_goldestNow_1 : decode cX6_goldestNow 1 = .ok (.istore_n 1, 1) := by decide +kernel
theorem dX6_goldestNow_2 : decode cX6_goldestNow 2 = .ok (.iconst 0, 1) := by decide +kernel
theorem dX6_goldestNow_3 : decode cX6_goldestNow 3 = .ok (.istore_n 2, 1) := by decide +kernel
theorem dX6_goldestNow_4 : decode cX6_goldestNow 4 = .ok (.iload_n 2, 1) := by decide +kernel
theorem dX6_goldestNow_5 : decode cX6_goldestNow 5 = .ok (.aload_n 0, 1) := by decide +kernel
theorem dX6_goldestNow_6 : decode cX6_goldestNow 6 = .ok (.getfield 131, 3) := by decide +kernel
theorem dX6_goldestNow_9 : decode cX6_goldestNow 9 = .ok (.if_icmp .ge 35, 3) := by decide +kernel
theorem dX6_goldestNow_12 : decode cX6_goldestNow 12 = .ok (.iload_n 1, 1) := by decide +kernel
theorem dX6_goldestNow_13 : decode cX6_goldestNow 13 = .ok (.iconst (-1), 1) := by decide +kernel
theorem dX6_goldestNow_14 : decode cX6_goldestNow 14 = .ok (.if_icmp .eq 18, 3) := by decide +kernel
theorem dX6_goldestNow_17 : decode cX6_goldestNow 17 = .ok (.aload_n 0, 1) := by decide +kernel
theorem dX6_goldestNow_18 : decode cX6_goldestNow 18 = .ok (.getfield 52, 3) := by decide +kernel
theorem dX6_goldestNow_21 : decode cX6_goldestNow 21 = .ok (.iload_n 2, 1) := by decide +kernel
theorem dX6_goldestNow_22 : decode cX6_goldestNow 22 = .ok (.iaload, 1) := by decide +kernel
theorem dX6_goldestNow_23 : decode cX6_goldestNow 23 = .ok (.aload_n 0, 1) := by decide +kernel
theorem dX6_goldestNow_24 : decode cX6_goldestNow 24 = .ok (.getfield 52, 3) := by decide +kernel
theorem dX6_goldestNow_27 : decode cX6_goldestNow 27 = .ok (.iload_n 1, 1) := by decide +kernel
theorem dX6_goldestNow_28 : decode cX6_goldestNow 28 = .ok (.iaload, 1) := by decide +kernel
theorem dX6_goldestNow_29 : decode cX6_goldestNow 29 = .ok (.if_icmp .le 7, 3) := by decide +kernel
theorem dX6_goldestNow_32 : decode cX6_goldestNow 32 = .ok (.iload_n 2, 1) := by decide +kernel
theorem dX6_goldestNow_33 : decode cX6_goldestNow 33 = .ok (.goto 4, 3) := by decide +kernel
theorem dX6_goldestNow_36 : decode cX6_goldestNow 36 = .ok (.iload_n 1, 1) := by decide +kernel
theorem dX6_goldestNow_37 : decode cX6_goldestNow 37 = .ok (.istore_n 1, 1) := by decide +kernel
theorem dX6_goldestNow_38 : decode cX6_goldestNow 38 = .ok (.iinc 2 1, 3) := by decide +kernel
theorem dX6_goldestNow_41 : decode cX6_goldestNow 41 = .ok (.goto (-37), 3) := by decide +kernel
theorem dX6_goldestNow_44 : decode cX6_goldestNow 44 = .ok (.iload_n 1, 1) := by decide +kernel
theorem dX6_goldestNow_45 : decode cX6_goldestNow 45 = .ok (.ireturn, 1) := by decide +kernel
theorem dX6_goldest_0 : decode cX6_goldest 0 = .ok (.aload_n 0, 1) := by decide +kernel
theorem dX6_goldest_1 : decode cX6_goldest 1 = .ok (.invokevirtual 222, 3) := by decide +kernel
theorem dX6_goldest_4 : decode cX6_goldest 4 = .ok (.aload_n 0, 1) := by decide +kernel
theorem dX6_goldest_5 : decode cX6_goldest 5 = .ok (.invokevirtual 237, 3) := by decide +kernel
theorem dX6_goldest_8 : decode cX6_goldest 8 = .ok (.ireturn, 1) := by decide +kernel
theorem dX6_peaceNow_0 : decode cX6_peaceNow 0 = .ok (.iconst 0, 1) := by decide +kernel
theorem dX6_peaceNow_1 : decode cX6_peaceNow 1 = .ok (.istore_n 1, 1) := by decide +kernel
theorem dX6_peaceNow_2 : decode cX6_peaceNow 2 = .ok (.iconst 0, 1) := by decide +kernel
theorem dX6_peaceNow_3 : decode cX6_peaceNow 3 = .ok (.istore_n 2, 1) := by decide +kernel
theorem dX6_peaceNow_4 : decode cX6_peaceNow 4 = .ok (.iload_n 2, 1) := by decide +kernel
theorem dX6_peaceNow_5 : decode cX6_peaceNow 5 = .ok (.aload_n 0, 1) := by decide +kernel
theorem dX6_peaceNow_6 : decode cX6_peaceNow 6 = .ok (.getfield 145, 3) := by decide +kernel
theorem dX6_peaceNow_9 : decode cX6_peaceNow 9 = .ok (.if_icmp .ge 29, 3) := by decide +kernel
theorem dX6_peaceNow_12 : decode cX6_peaceNow 12 = .ok (.iload_n 1, 1) := by decide +kernel
theorem dX6_peaceNow_13 : decode cX6_peaceNow 13 = .ok (.aload_n 0, 1) := by decide +kernel
theorem dX6_peaceNow_14 : decode cX6_peaceNow 14 = .ok (.getfield 40, 3) := by decide +kernel
theorem dX6_peaceNow_17 : decode cX6_peaceNow 17 = .ok (.iload_n 2, 1) := by decide +kernel
theorem dX6_peaceNow_18 : decode cX6_peaceNow 18 = .ok (.iaload, 1) := by decide +kernel
theorem dX6_peaceNow_19 : decode cX6_peaceNow 19 = .ok (.iconst 3, 1) := by decide +kernel
theorem dX6_peaceNow_20 : decode cX6_peaceNow 20 = .ok (.if_icmp .ne 9, 3) := by decide +kernel
theorem dX6_peaceNow_23 : decode cX6_peaceNow 23 = .ok (.iconst 1, 1) := by decide +kernel
theorem dX6_peaceNow_24 : decode cX6_peaceNow 24 = .ok (.iload_n 2, 1) := by decide +kernel
theorem dX6_peaceNow_25 : decode cX6_peaceNow 25 = .ok (.ishl, 1) := by decide +kernel
theorem dX6_peaceNow_26 : decode cX6_peaceNow 26 = .ok (.goto 4, 3) := by decide +kernel
theorem dX6_peaceNow_29 : decode cX6_peaceNow 29 = .ok (.iconst 0, 1) := by decide +kernel
theorem dX6_peaceNow_30 : decode cX6_peaceNow 30 = .ok (.ior, 1) := by decide +kernel
theorem dX6_peaceNow_31 : decode cX6_peaceNow 31 = .ok (.istore_n 1, 1) := by decide +kernel
theorem dX6_peaceNow_32 : decode cX6_peaceNow 32 = .ok (.iinc 2 1, 3) := by decide +kernel
theorem dX6_peaceNow_35 : decode cX6_peaceNow 35 = .ok (.goto (-31), 3) := by decide +kernel
theorem dX6_peaceNow_38 : decode cX6_peaceNow 38 = .ok (.iload_n 1, 1) := by decide +kernel
theorem dX6_peaceNow_39 : decode cX6_peaceNow 39 = .ok (.ireturn, 1) := by decide +kernel
theorem dX6_peace_0 : decode cX6_peace 0 = .ok (.aload_n 0, 1) := by decide +kernel
theorem dX6_peace_1 : decode cX6_peace 1 = .ok (.invokevirtual 222, 3) := by decide +kernel
theorem dX6_peace_4 : decode cX6_peace 4 = .ok (.aload_n 0, 1) := by decide +kernel
theorem dX6_peace_5 : decode cX6_peace 5 = .ok (.invokevirtual 240, 3) := by decide +kernel
theorem dX6_peace_8 : decode cX6_peace 8 = .ok (.ireturn, 1) := by decide +kernel
theorem dX6_changes_0 : decode cX6_changes 0 = .ok (.aload_n 0, 1) := by decide +kernel
theorem dX6_changes_1 : decode cX6_changes 1 = .ok (.getfield 31, 3) := by decide +kernel
theorem dX6_changes_4 : decode cX6_changes 4 = .ok (.iconst 3, 1) := by decide +kernel
theorem dX6_changes_5 : decode cX6_changes 5 = .ok (.iload_n 1, 1) := by decide +kernel
theorem dX6_changes_6 : decode cX6_changes 6 = .ok (.imul, 1) := by decide +kernel
theorem dX6_changes_7 : decode cX6_changes 7 = .ok (.iaload, 1) := by decide +kernel
theorem dX6_changes_8 : decode cX6_changes 8 = .ok (.istore_n 2, 1) := by decide +kernel
theorem dX6_changes_9 : decode cX6_changes 9 = .ok (.aload_n 0, 1) := by decide +kernel
theorem dX6_changes_10 : decode cX6_changes 10 = .ok (.getfield 31, 3) := by decide +kernel
theorem dX6_changes_13 : decode cX6_changes 13 = .ok (.iconst 3, 1) := by decide +kernel
theorem dX6_changes_14 : decode cX6_changes 14 = .ok (.iload_n 1, 1) := by decide +kernel
theorem dX6_changes_15 : decode cX6_changes 15 = .ok (.imul, 1) := by decide +kernel
theorem dX6_changes_16 : decode cX6_changes 16 = .ok (.aload_n 0, 1) := by decide +kernel
theorem dX6_changes_17 : decode cX6_changes 17 = .ok (.getfield 31, 3) := by decide +kernel
theorem dX6_changes_20 : decode cX6_changes 20 = .ok (.iconst 3, 1) := by decide +kernel
theorem dX6_changes_21 : decode cX6_changes 21 = .ok (.iload_n 1, 1) := by decide +kernel
theorem dX6_changes_22 : decode cX6_changes 22 = .ok (.imul, 1) := by decide +kernel
theorem dX6_changes_23 : decode cX6_changes 23 = .ok (.iconst 1, 1) := by decide +kernel
theorem dX6_changes_24 : decode cX6_changes 24 = .ok (.iadd, 1) := by decide +kernel
theorem dX6_changes_25 : decode cX6_changes 25 = .ok (.iaload, 1) := by decide +kernel
theorem dX6_changes_26 : decode cX6_changes 26 = .ok (.iastore, 1) := by decide +kernel
theorem dX6_changes_27 : decode cX6_changes 27 = .ok (.aload_n 0, 1) := by decide +kernel
theorem dX6_changes_28 : decode cX6_changes 28 = .ok (.getfield 31, 3) := by decide +kernel
theorem dX6_changes_31 : decode cX6_changes 31 = .ok (.iconst 3, 1) := by decide +kernel
theorem dX6_changes_32 : decode cX6_changes 32 = .ok (.iload_n 1, 1) := by decide +kernel
theorem dX6_changes_33 : decode cX6_changes 33 = .ok (.imul, 1) := by decide +kernel
theorem dX6_changes_34 : decode cX6_changes 34 = .ok (.iconst 1, 1) := by decide +kernel
theorem dX6_changes_35 : decode cX6_changes 35 = .ok (.iadd, 1) := by decide +kernel
theorem dX6_changes_36 : decode cX6_changes 36 = .ok (.iload_n 2, 1) := by decide +kernel
theorem dX6_changes_37 : decode cX6_changes 37 = .ok (.iastore, 1) := by decide +kernel
theorem dX6_changes_38 : decode cX6_changes 38 = .ok (.return_, 1) := by decide +kernel
theorem dX6_chinOf_0 : decode cX6_chinOf 0 = .ok (.aload_n 0, 1) := by decide +kernel
theorem dX6_chinOf_1 : decode cX6_chinOf 1 = .ok (.invokevirtual 219, 3) := by decide +kernel
theorem dX6_chinOf_4 : decode cX6_chinOf 4 = .ok (.aload_n 0, 1) := by decide +kernel
theorem dX6_chinOf_5 : decode cX6_chinOf 5 = .ok (.getfield 46, 3) := by decide +kernel
theorem dX6_chinOf_8 : decode cX6_chinOf 8 = .ok (.iload_n 1, 1) := by decide +kernel
theorem dX6_chinOf_9 : decode cX6_chinOf 9 = .ok (.iaload, 1) := by decide +kernel
theorem dX6_chinOf_10 : decode cX6_chinOf 10 = .ok (.istore_n 3, 1) := by decide +kernel
theorem dX6_chinOf_11 : decode cX6_chinOf 11 = .ok (.aload_n 0, 1) := by decide +kernel
theorem dX6_chinOf_12 : decode cX6_chinOf 12 = .ok (.iload_n 1, 1) := by decide +kernel
theorem dX6_chinOf_13 : decode cX6_chinOf 13 = .ok (.invokevirtual 243, 3) := by decide +kernel
theorem dX6_chinOf_16 : decode cX6_chinOf 16 = .ok (.aload_n 0, 1) := by decide +kernel
theorem dX6_chinOf_17 : decode cX6_chinOf 17 = .ok (.invokevirtual 219, 3) := by decide +kernel
theorem dX6_chinOf_20 : decode cX6_chinOf 20 = .ok (.aload_n 0, 1) := by decide +kernel
theorem dX6_chinOf_21 : decode cX6_chinOf 21 = .ok (.getfield 46, 3) := by decide +kernel
theorem dX6_chinOf_24 : decode cX6_chinOf 24 = .ok (.iload_n 1, 1) := by decide +kernel
theorem dX6_chinOf_25 : decode cX6_chinOf 25 = .ok (.iaload, 1) := by decide +kernel
theorem dX6_chinOf_26 : decode cX6_chinOf 26 = .ok (.istore 4, 2) := by decide +kernel
theorem dX6_chinOf_28 : decode cX6_chinOf 28 = .ok (.aload_n 0, 1) := by decide +kernel
theorem dX6_chinOf_29 : decode cX6_chinOf 29 = .ok (.iload_n 1, 1) := by decide +kernel
theorem dX6_chinOf_30 : decode cX6_chinOf 30 = .ok (.invokevirtual 243, 3) := by decide +kernel
theorem dX6_chinOf_33 : decode cX6_chinOf 33 = .ok (.iload_n 2, 1) := by decide +kernel
theorem dX6_chinOf_34 : decode cX6_chinOf 34 = .ok (.ifCond .ne 17, 3) := by decide +kernel
theorem dX6_chinOf_37 : decode cX6_chinOf 37 = .ok (.iload 4, 2) := by decide +kernel
theorem dX6_chinOf_39 : decode cX6_chinOf 39 = .ok (.iload_n 3, 1) := by decide +kernel
theorem dX6_chinOf_40 : decode cX6_chinOf 40 = .ok (.if_icmp .ge 7, 3) := by decide +kernel
theorem dX6_chinOf_43 : decode cX6_chinOf 43 = .ok (.iconst 1, 1) := by decide +kernel
theorem dX6_chinOf_44 : decode cX6_chinOf 44 = .ok (.goto 13, 3) := by decide +kernel
theorem dX6_chinOf_47 : decode cX6_chinOf 47 = .ok (.iconst 0, 1) := by decide +kernel
theorem dX6_chinOf_48 : decode cX6_chinOf 48 = .ok (.goto 9, 3) := by decide +kernel
theorem dX6_chinOf_51 : decode cX6_chinOf 51 = .ok (.iload_n 3, 1) := by decide +kernel
theorem dX6_chinOf_52 : decode cX6_chinOf 52 = .ok (.iload 4, 2) := by decide +kernel
theorem dX6_chinOf_54 : decode cX6_chinOf 54 = .ok (.invokestatic 202, 3) := by decide +kernel
theorem dX6_chinOf_57 : decode cX6_chinOf 57 = .ok (.ireturn, 1) := by decide +kernel
theorem dX6_chin_0 : decode cX6_chin 0 = .ok (.aload_n 0, 1) := by decide +kernel
theorem dX6_chin_1 : decode cX6_chin 1 = .ok (.invokevirtual 222, 3) := by decide +kernel
theorem dX6_chin_4 : decode cX6_chin 4 = .ok (.aload_n 0, 1) := by decide +kernel
theorem dX6_chin_5 : decode cX6_chin 5 = .ok (.iload_n 1, 1) := by decide +kernel
theorem dX6_chin_6 : decode cX6_chin 6 = .ok (.invokevirtual 178, 3) := by decide +kernel
theorem dX6_chin_9 : decode cX6_chin 9 = .ok (.ifCond .eq 19, 3) := by decide +kernel
theorem dX6_chin_12 : decode cX6_chin 12 = .ok (.iload_n 2, 1) := by decide +kernel
theorem dX6_chin_13 : decode cX6_chin 13 = .ok (.invokestatic 175, 3) := by decide +kernel
theorem dX6_chin_16 : decode cX6_chin 16 = .ok (.ifCond .eq 12, 3) := by decide +kernel
theorem dX6_chin_19 : decode cX6_chin 19 = .ok (.aload_n 0, 1) := by decide +kernel
theorem dX6_chin_20 : decode cX6_chin 20 = .ok (.iload_n 1, 1) := by decide +kernel
theorem dX6_chin_21 : decode cX6_chin 21 = .ok (.iload_n 2, 1) := by decide +kernel
theorem dX6_chin_22 : decode cX6_chin 22 = .ok (.invokevirtual 246, 3) := by decide +kernel
theorem dX6_chin_25 : decode cX6_chin 25 = .ok (.goto 5, 3) := by decide +kernel
theorem dX6_chin_28 : decode cX6_chin 28 = .ok (.bipush (-2), 2) := by decide +kernel
theorem dX6_chin_30 : decode cX6_chin 30 = .ok (.ireturn, 1) := by decide +kernel
theorem dX6_dawnOf_0 : decode cX6_dawnOf 0 = .ok (.aload_n 0, 1) := by decide +kernel
theorem dX6_dawnOf_1 : decode cX6_dawnOf 1 = .ok (.getfield 31, 3) := by decide +kernel
theorem dX6_dawnOf_4 : decode cX6_dawnOf 4 = .ok (.iconst 3, 1) := by decide +kernel
theorem dX6_dawnOf_5 : decode cX6_dawnOf 5 = .ok (.iload_n 1, 1) := by decide +kernel
theorem dX6_dawnOf_6 : decode cX6_dawnOf 6 = .ok (.imul, 1) := by decide +kernel
theorem dX6_dawnOf_7 : decode cX6_dawnOf 7 = .ok (.iconst 2, 1) := by decide +kernel
theorem dX6_dawnOf_8 : decode cX6_dawnOf 8 = .ok (.iadd, 1) := by decide +kernel
theorem dX6_dawnOf_9 : decode cX6_dawnOf 9 = .ok (.iaload, 1) := by decide +kernel
theorem dX6_dawnOf_10 : decode cX6_dawnOf 10 = .ok (.istore_n 3, 1) := by decide +kernel
theorem dX6_dawnOf_11 : decode cX6_dawnOf 11 = .ok (.iconst (-1), 1) := by decide +kernel
theorem dX6_dawnOf_12 : decode cX6_dawnOf 12 = .ok (.istore 4, 2) := by decide +kernel
theorem dX6_dawnOf_14 : decode cX6_dawnOf 14 = .ok (.iconst (-1), 1) := by decide +kernel
theorem dX6_dawnOf_15 : decode cX6_dawnOf 15 = .ok (.istore 5, 2) := by decide +kernel
theorem dX6_dawnOf_17 : decode cX6_dawnOf 17 = .ok (.iconst 0, 1) := by decide +kernel
theorem dX6_dawnOf_18 : decode cX6_dawnOf 18 = .ok (.istore 6, 2) := by decide +kernel
theorem dX6_dawnOf_20 : decode cX6_dawnOf 20 = .ok (.iload 6, 2) := by decide +kernel
theorem dX6_dawnOf_22 : decode cX6_dawnOf 22 = .ok (.bipush 24, 2) := by decide +kernel
theorem dX6_dawnOf_24 : decode cX6_dawnOf 24 = .ok (.if_icmp .ge 59, 3) := by decide +kernel
theorem dX6_dawnOf_27 : decode cX6_dawnOf 27 = .ok (.aload_n 0, 1) := by decide +kernel
theorem dX6_dawnOf_28 : decode cX6_dawnOf 28 = .ok (.getfield 31, 3) := by decide +kernel
theorem dX6_dawnOf_31 : decode cX6_dawnOf 31 = .ok (.iconst 3, 1) := by decide +kernel
theorem dX6_dawnOf_32 : decode cX6_dawnOf 32 = .ok (.iload_n 1, 1) := by decide +kernel
theorem dX6_dawnOf_33 : decode cX6_dawnOf 33 = .ok (.imul, 1) := by decide +kernel
theorem dX6_dawnOf_34 : decode cX6_dawnOf 34 = .ok (.iconst 2, 1) := by decide +kernel
theorem dX6_dawnOf_35 : decode cX6_dawnOf 35 = .ok (.iadd, 1) := by decide +kernel
theorem dX6_dawnOf_36 : decode cX6_dawnOf 36 = .ok (.iload 6, 2) := by decide +kernel
theorem dX6_dawnOf_38 : decode cX6_dawnOf 38 = .ok (.iastore, 1) := by decide +kernel
theorem dX6_dawnOf_39 : decode cX6_dawnOf 39 = .ok (.aload_n 0, 1) := by decide +kernel
theorem dX6_dawnOf_40 : decode cX6_dawnOf 40 = .ok (.invokevirtual 219, 3) := by decide +kernel
theorem dX6_dawnOf_43 : decode cX6_dawnOf 43 = .ok (.aload_n 0, 1) := by decide +kernel
theorem dX6_dawnOf_44 : decode cX6_dawnOf 44 = .ok (.invokevirtual 240, 3) := by decide +kernel
theorem dX6_dawnOf_47 : decode cX6_dawnOf 47 = .ok (.invokestatic 249, 3) := by decide +kernel
theorem dX6_dawnOf_50 : decode cX6_dawnOf 50 = .ok (.istore 7, 2) := by decide +kernel
theorem dX6_dawnOf_52 : decode cX6_dawnOf 52 = .ok (.iload 7, 2) := by decide +kernel
theorem dX6_dawnOf_54 : decode cX6_dawnOf 54 = .ok (.iload 5, 2) := by decide +kernel
theorem dX6_dawnOf_56 : decode cX6_dawnOf 56 = .ok (.if_icmp .le 8, 3) := by decide +kernel
theorem dX6_dawnOf_59 : decode cX6_dawnOf 59 = .ok (.iload 6, 2) := by decide +kernel
theorem dX6_dawnOf_61 : decode cX6_dawnOf 61 = .ok (.goto 5, 3) := by decide +kernel
theorem dX6_dawnOf_64 : decode cX6_dawnOf 64 = .ok (.iload 4, 2) := by decide +kernel
theorem dX6_dawnOf_66 : decode cX6_dawnOf 66 = .ok (.istore 4, 2) := by decide +kernel
theorem dX6_dawnOf_68 : decode cX6_dawnOf 68 = .ok (.iload 7, 2) := by decide +kernel
theorem dX6_dawnOf_70 : decode cX6_dawnOf 70 = .ok (.iload 5, 2) := by decide +kernel
theorem dX6_dawnOf_72 : decode cX6_dawnOf 72 = .ok (.invokestatic 205, 3) := by decide +kernel
theorem dX6_dawnOf_75 : decode cX6_dawnOf 75 = .ok (.istore 5, 2) := by decide +kernel
theorem dX6_dawnOf_77 : decode cX6_dawnOf 77 = .ok (.iinc 6 1, 3) := by decide +kernel
theorem dX6_dawnOf_80 : decode cX6_dawnOf 80 = .ok (.goto (-60), 3) := by decide +kernel
theorem dX6_dawnOf_83 : decode cX6_dawnOf 83 = .ok (.aload_n 0, 1) := by decide +kernel
theorem dX6_dawnOf_84 : decode cX6_dawnOf 84 = .ok (.getfield 31, 3) := by decide +kernel
theorem dX6_dawnOf_87 : decode cX6_dawnOf 87 = .ok (.iconst 3, 1) := by decide +kernel
theorem dX6_dawnOf_88 : decode cX6_dawnOf 88 = .ok (.iload_n 1, 1) := by decide +kernel
theorem dX6_dawnOf_89 : decode cX6_dawnOf 89 = .ok (.imul, 1) := by decide +kernel
theorem dX6_dawnOf_90 : decode cX6_dawnOf 90 = .ok (.iconst 2, 1) := by decide +kernel
theorem dX6_dawnOf_91 : decode cX6_dawnOf 91 = .ok (.iadd, 1) := by decide +kernel
theorem dX6_dawnOf_92 : decode cX6_dawnOf 92 = .ok (.iload_n 3, 1) := by decide +kernel
theorem dX6_dawnOf_93 : decode cX6_dawnOf 93 = .ok (.iastore, 1) := by decide +kernel
theorem dX6_dawnOf_94 : decode cX6_dawnOf 94 = .ok (.iload_n 2, 1) := by decide +kernel
theorem dX6_dawnOf_95 : decode cX6_dawnOf 95 = .ok (.ifCond .ne 8, 3) := by decide +kernel
theorem dX6_dawnOf_98 : decode cX6_dawnOf 98 = .ok (.iload 4, 2) := by decide +kernel
theorem dX6_dawnOf_100 : decode cX6_dawnOf 100 = .ok (.goto 5, 3) := by decide +kernel
theorem dX6_dawnOf_103 : decode cX6_dawnOf 103 = .ok (.iload 5, 2) := by decide +kernel
theorem dX6_dawnOf_105 : decode cX6_dawnOf 105 = .ok (.ireturn, 1) := by decide +kernel
theorem dX6_dawn_0 : decode cX6_dawn 0 = .ok (.aload_n 0, 1) := by decide +kernel
theorem dX6_dawn_1 : decode cX6_dawn 1 = .ok (.invokevirtual 222, 3) := by decide +kernel
theorem dX6_dawn_4 : decode cX6_dawn 4 = .ok (.aload_n 0, 1) := by decide +kernel
theorem dX6_dawn_5 : decode cX6_dawn 5 = .ok (.iload_n 1, 1) := by decide +kernel
theorem dX6_dawn_6 : decode cX6_dawn 6 = .ok (.invokevirtual 178, 3) := by decide +kernel
theorem dX6_dawn_9 : decode cX6_dawn 9 = .ok (.ifCond .eq 19, 3) := by decide +kernel
theorem dX6_dawn_12 : decode cX6_dawn 12 = .ok (.iload_n 2, 1) := by decide +kernel
theorem dX6_dawn_13 : decode cX6_dawn 13 = .ok (.invokestatic 175, 3) := by decide +kernel
theorem dX6_dawn_16 : decode cX6_dawn 16 = .ok (.ifCond .eq 12, 3) := by decide +kernel
theorem dX6_dawn_19 : decode cX6_dawn 19 = .ok (.aload_n 0, 1) := by decide +kernel
theorem dX6_dawn_20 : decode cX6_dawn 20 = .ok (.iload_n 1, 1) := by decide +kernel
theorem dX6_dawn_21 : decode cX6_dawn 21 = .ok (.iload_n 2, 1) := by decide +kernel
theorem dX6_dawn_22 : decode cX6_dawn 22 = .ok (.invokevirtual 252, 3) := by decide +kernel
theorem dX6_dawn_25 : decode cX6_dawn 25 = .ok (.goto 5, 3) := by decide +kernel
theorem dX6_dawn_28 : decode cX6_dawn 28 = .ok (.bipush (-2), 2) := by decide +kernel
theorem dX6_dawn_30 : decode cX6_dawn 30 = .ok (.ireturn, 1) := by decide +kernel
theorem dX6_mondayBy_0 : decode cX6_mondayBy 0 = .ok (.iconst (-1), 1) := by decide +kernel
theorem dX6_mondayBy_1 : decode cX6_mondayBy 1 = .ok (.istore_n 2, 1) := by decide +kernel
theorem dX6_mondayBy_2 : decode cX6_mondayBy 2 = .ok (.sipush 999, 3) := by decide +kernel
theorem dX6_mondayBy_5 : decode cX6_mondayBy 5 = .ok (.istore_n 3, 1) := by decide +kernel
theorem dX6_mondayBy_6 : decode cX6_mondayBy 6 = .ok (.iconst 0, 1) := by decide +kernel
theorem dX6_mondayBy_7 : decode cX6_mondayBy 7 = .ok (.istore 4, 2) := by decide +kernel
theorem dX6_mondayBy_9 : decode cX6_mondayBy 9 = .ok (.iload 4, 2) := by decide +kernel
theorem dX6_mondayBy_11 : decode cX6_mondayBy 11 = .ok (.bipush 24, 2) := by decide +kernel
theorem dX6_mondayBy_13 : decode cX6_mondayBy 13 = .ok (.if_icmp .ge 43, 3) := by decide +kernel
theorem dX6_mondayBy_16 : decode cX6_mondayBy 16 = .ok (.aload_n 0, 1) := by decide +kernel
theorem dX6_mondayBy_17 : decode cX6_mondayBy 17 = .ok (.iload 4, 2) := by decide +kernel
theorem dX6_mondayBy_19 : decode cX6_mondayBy 19 = .ok (.putfield 88, 3) := by decide +kernel
theorem dX6_mondayBy_22 : decode cX6_mondayBy 22 = .ok (.aload_n 0, 1) := by decide +kernel
theorem dX6_mondayBy_23 : decode cX6_mondayBy 23 = .ok (.invokevirtual 219, 3) := by decide +kernel
theorem dX6_mondayBy_26 : decode cX6_mondayBy 26 = .ok (.aload_n 0, 1) := by decide +kernel
theorem dX6_mondayBy_27 : decode cX6_mondayBy 27 = .ok (.getfield 199, 3) := by decide +kernel
theorem dX6_mondayBy_30 : decode cX6_mondayBy 30 = .ok (.iload_n 3, 1) := by decide +kernel
theorem dX6_mondayBy_31 : decode cX6_mondayBy 31 = .ok (.if_icmp .ge 8, 3) := by decide +kernel
theorem dX6_mondayBy_34 : decode cX6_mondayBy 34 = .ok (.iload 4, 2) := by decide +kernel
theorem dX6_mondayBy_36 : decode cX6_mondayBy 36 = .ok (.goto 4, 3) := by decide +kernel
theorem dX6_mondayBy_39 : decode cX6_mondayBy 39 = .ok (.iload_n 2, 1) := by decide +kernel
theorem dX6_mondayBy_40 : decode cX6_mondayBy 40 = .ok (.istore_n 2, 1) := by decide +kernel
theorem dX6_mondayBy_41 : decode cX6_mondayBy 41 = .ok (.aload_n 0, 1) := by decide +kernel
theorem dX6_mondayBy_42 : decode cX6_mondayBy 42 = .ok (.getfield 199, 3) := by decide +kernel
theorem dX6_mondayBy_45 : decode cX6_mondayBy 45 = .ok (.iload_n 3, 1) := by decide +kernel
theorem dX6_mondayBy_46 : decode cX6_mondayBy 46 = .ok (.invokestatic 202, 3) := by decide +kernel
theorem dX6_mondayBy_49 : decode cX6_mondayBy 49 = .ok (.istore_n 3, 1) := by decide +kernel
theorem dX6_mondayBy_50 : decode cX6_mondayBy 50 = .ok (.iinc 4 1, 3) := by decide +kernel
theorem dX6_mondayBy_53 : decode cX6_mondayBy 53 = .ok (.goto (-44), 3) := by decide +kernel
theorem dX6_mondayBy_56 : decode cX6_mondayBy 56 = .ok (.aload_n 0, 1) := by decide +kernel
theorem dX6_mondayBy_57 : decode cX6_mondayBy 57 = .ok (.iconst (-1), 1) := by decide +kernel
theorem dX6_mondayBy_58 : decode cX6_mondayBy 58 = .ok (.putfield 88, 3) := by decide +kernel
theorem dX6_mondayBy_61 : decode cX6_mondayBy 61 = .ok (.iload_n 1, 1) := by decide +kernel
theorem dX6_mondayBy_62 : decode cX6_mondayBy 62 = .ok (.ifCond .ne 7, 3) := by decide +kernel
theorem dX6_mondayBy_65 : decode cX6_mondayBy 65 = .ok (.iload_n 2, 1) := by decide +kernel
theorem dX6_mondayBy_66 : decode cX6_mondayBy 66 = .ok (.goto 4, 3) := by decide +kernel
theorem dX6_mondayBy_69 : decode cX6_mondayBy 69 = .ok (.iload_n 3, 1) := by decide +kernel
theorem dX6_mondayBy_70 : decode cX6_mondayBy 70 = .ok (.ireturn, 1) := by decide +kernel
theorem dX6_monday_0 : decode cX6_monday 0 = .ok (.aload_n 0, 1) := by decide +kernel
theorem dX6_monday_1 : decode cX6_monday 1 = .ok (.invokevirtual 222, 3) := by decide +kernel
theorem dX6_monday_4 : decode cX6_monday 4 = .ok (.iload_n 1, 1) := by decide +kernel
theorem dX6_monday_5 : decode cX6_monday 5 = .ok (.invokestatic 175, 3) := by decide +kernel
theorem dX6_monday_8 : decode cX6_monday 8 = .ok (.ifCond .eq 11, 3) := by decide +kernel
theorem dX6_monday_11 : decode cX6_monday 11 = .ok (.aload_n 0, 1) := by decide +kernel
theorem dX6_monday_12 : decode cX6_monday 12 = .ok (.iload_n 1, 1) := by decide +kernel
theorem dX6_monday_13 : decode cX6_monday 13 = .ok (.invokevirtual 255, 3) := by decide +kernel
theorem dX6_monday_16 : decode cX6_monday 16 = .ok (.goto 5, 3) := by decide +kernel
theorem dX6_monday_19 : decode cX6_monday 19 = .ok (.bipush (-2), 2) := by decide +kernel
theorem dX6_monday_21 : decode cX6_monday 21 = .ok (.ireturn, 1) := by decide +kernel
theorem dX6_isSpared_0 : decode cX6_isSpared 0 = .ok (.aload_n 0, 1) := by decide +kernel
theorem dX6_isSpared_1 : decode cX6_isSpared 1 = .ok (.iload_n 1, 1) := by decide +kernel
theorem dX6_isSpared_2 : decode cX6_isSpared 2 = .ok (.putfield 189, 3) := by decide +kernel
theorem dX6_isSpared_5 : decode cX6_isSpared 5 = .ok (.aload_n 0, 1) := by decide +kernel
theorem dX6_isSpared_6 : decode cX6_isSpared 6 = .ok (.invokevirtual 219, 3) := by decide +kernel
theorem dX6_isSpared_9 : decode cX6_isSpared 9 = .ok (.aload_n 0, 1) := by decide +kernel
theorem dX6_isSpared_10 : decode cX6_isSpared 10 = .ok (.iconst 0, 1) := by decide +kernel
theorem dX6_isSpared_11 : decode cX6_isSpared 11 = .ok (.putfield 189, 3) := by decide +kernel
theorem dX6_isSpared_14 : decode cX6_isSpared 14 = .ok (.iconst 1, 1) := by decide +kernel
theorem dX6_isSpared_15 : decode cX6_isSpared 15 = .ok (.istore_n 2, 1) := by decide +kernel
theorem dX6_isSpared_16 : decode cX6_isSpared 16 = .ok (.iconst 0, 1) := by decide +kernel
theorem dX6_isSpared_17 : decode cX6_isSpared 17 = .ok (.istore_n 3, 1) := by decide +kernel
theorem dX6_isSpared_18 : decode cX6_isSpared 18 = .ok (.iload_n 3, 1) := by decide +kernel
theorem dX6_isSpared_19 : decode cX6_isSpared 19 = .ok (.aload_n 0, 1) := by decide +kernel
theorem dX6_isSpared_20 : decode cX6_isSpared 20 = .ok (.getfield 145, 3) := by decide +kernel
theorem dX6_isSpared_23 : decode cX6_isSpared 23 = .ok (.if_icmp .ge 29, 3) := by decide +kernel
theorem dX6_isSpared_26 : decode cX6_isSpared 26 = .ok (.iload_n 2, 1) := by decide +kernel
theorem dX6_isSpared_27 : decode cX6_isSpared 27 = .ok (.ifCond .eq 17, 3) := by decide +kernel
theorem dX6_isSpared_30 : decode cX6_isSpared 30 = .ok (.aload_n 0, 1) := by decide +kernel
theorem dX6_isSpared_31 : decode cX6_isSpared 31 = .ok (.getfield 40, 3) := by decide +kernel
theorem dX6_isSpared_34 : decode cX6_isSpared 34 = .ok (.iload_n 3, 1) := by decide +kernel
theorem dX6_isSpared_35 : decode cX6_isSpared 35 = .ok (.iaload, 1) := by decide +kernel
theorem dX6_isSpared_36 : decode cX6_isSpared 36 = .ok (.iconst 3, 1) := by decide +kernel
theorem dX6_isSpared_37 : decode cX6_isSpared 37 = .ok (.if_icmp .lt 7, 3) := by decide +kernel
theorem dX6_isSpared_40 : decode cX6_isSpared 40 = .ok (.iconst 1, 1) := by decide +kernel
theorem dX6_isSpared_41 : decode cX6_isSpared 41 = .ok (.goto 4, 3) := by decide +kernel
theorem dX6_isSpared_44 : decode cX6_isSpared 44 = .ok (.iconst 0, 1) := by decide +kernel
theorem dX6_isSpared_45 : decode cX6_isSpared 45 = .ok (.istore_n 2, 1) := by decide +kernel
theorem dX6_isSpared_46 : decode cX6_isSpared 46 = .ok (.iinc 3 1, 3) := by decide +kernel
theorem dX6_isSpared_49 : decode cX6_isSpared 49 = .ok (.goto (-31), 3) := by decide +kernel
theorem dX6_isSpared_52 : decode cX6_isSpared 52 = .ok (.iload_n 2, 1) := by decide +kernel
theorem dX6_isSpared_53 : decode cX6_isSpared 53 = .ok (.ireturn, 1) := by decide +kernel
theorem dX6_spareBy_0 : decode cX6_spareBy 0 = .ok (.aload_n 0, 1) := by decide +kernel
theorem dX6_spareBy_1 : decode cX6_spareBy 1 = .ok (.iconst 0, 1) := by decide +kernel
theorem dX6_spareBy_2 : decode cX6_spareBy 2 = .ok (.invokevirtual 258, 3) := by decide +kernel
theorem dX6_spareBy_5 : decode cX6_spareBy 5 = .ok (.ifCond .eq 14, 3) := by decide +kernel
theorem dX6_spareBy_8 : decode cX6_spareBy 8 = .ok (.iload_n 1, 1) := by decide +kernel
theorem dX6_spareBy_9 : decode cX6_spareBy 9 = .ok (.iconst (-1), 1) := by decide +kernel
theorem dX6_spareBy_10 : decode cX6_spareBy 10 = .ok (.if_icmp .ne 7, 3) := by decide +kernel
theorem dX6_spareBy_13 : decode cX6_spareBy 13 = .ok (.iconst 0, 1) := by decide +kernel
theorem dX6_spareBy_14 : decode cX6_spareBy 14 = .ok (.goto 4, 3) := by decide +kernel
theorem dX6_spareBy_17 : decode cX6_spareBy 17 = .ok (.iconst (-1), 1) := by decide +kernel
theorem dX6_spareBy_18 : decode cX6_spareBy 18 = .ok (.ireturn, 1) := by decide +kernel
theorem dX6_spareBy_19 : decode cX6_spareBy 19 = .ok (.iconst 0, 1) := by decide +kernel
theorem dX6_spareBy_20 : decode cX6_spareBy 20 = .ok (.istore_n 2, 1) := by decide +kernel
theorem dX6_spareBy_21 : decode cX6_spareBy 21 = .ok (.iload_n 2, 1) := by decide +kernel
theorem dX6_spareBy_22 : decode cX6_spareBy 22 = .ok (.aload_n 0, 1) := by decide +kernel
theorem dX6_spareBy_23 : decode cX6_spareBy 23 = .ok (.getfield 184, 3) := by decide +kernel
theorem dX6_spareBy_26 : decode cX6_spareBy 26 = .ok (.if_icmp .ge 38, 3) := by decide +kernel
theorem dX6_spareBy_29 : decode cX6_spareBy 29 = .ok (.aload_n 0, 1) := by decide +kernel
theorem dX6_spareBy_30 : decode cX6_spareBy 30 = .ok (.iconst 1, 1) := by decide +kernel
theorem dX6_spareBy_31 : decode cX6_spareBy 31 = .ok (.iload_n 2, 1) := by decide +kernel
theorem dX6_spareBy_32 : decode cX6_spareBy 32 = .ok (.ishl, 1) := by decide +kernel
theorem dX6_spareBy_33 : decode cX6_spareBy 33 = .ok (.invokevirtual 258, 3) := by decide +kernel
theorem dX6_spareBy_36 : decode cX6_spareBy 36 = .ok (.ifCond .eq 22, 3) := by decide +kernel
theorem dX6_spareBy_39 : decode cX6_spareBy 39 = .ok (.iload_n 1, 1) := by decide +kernel
theorem dX6_spareBy_40 : decode cX6_spareBy 40 = .ok (.iconst (-1), 1) := by decide +kernel
theorem dX6_spareBy_41 : decode cX6_spareBy 41 = .ok (.if_icmp .ne 7, 3) := by decide +kernel
theorem dX6_spareBy_44 : decode cX6_spareBy 44 = .ok (.iconst 1, 1) := by decide +kernel
theorem dX6_spareBy_45 : decode cX6_spareBy 45 = .ok (.goto 12, 3) := by decide +kernel
theorem dX6_spareBy_48 : decode cX6_spareBy 48 = .ok (.iload_n 1, 1) := by decide +kernel
theorem dX6_spareBy_49 : decode cX6_spareBy 49 = .ok (.ifCond .ne 7, 3) := by decide +kernel
theorem dX6_spareBy_52 : decode cX6_spareBy 52 = .ok (.iload_n 2, 1) := by decide +kernel
theorem dX6_spareBy_53 : decode cX6_spareBy 53 = .ok (.goto 4, 3) := by decide +kernel
theorem dX6_spareBy_56 : decode cX6_spareBy 56 = .ok (.iconst (-1), 1) := by decide +kernel
theorem dX6_spareBy_57 : decode cX6_spareBy 57 = .ok (.ireturn, 1) := by decide +kernel
theorem dX6_spareBy_58 : decode cX6_spareBy 58 = .ok (.iinc 2 1, 3) := by decide +kernel
theorem dX6_spareBy_61 : decode cX6_spareBy 61 = .ok (.goto (-40), 3) := by decide +kernel
theorem dX6_spareBy_64 : decode cX6_spareBy 64 = .ok (.iconst 0, 1) := by decide +kernel
theorem dX6_spareBy_65 : decode cX6_spareBy 65 = .ok (.istore_n 2, 1) := by decide +kernel
theorem dX6_spareBy_66 : decode cX6_spareBy 66 = .ok (.iload_n 2, 1) := by decide +kernel
theorem dX6_spareBy_67 : decode cX6_spareBy 67 = .ok (.aload_n 0, 1) := by decide +kernel
theorem dX6_spareBy_68 : decode cX6_spareBy 68 = .ok (.getfield 184, 3) := by decide +kernel
theorem dX6_spareBy_71 : decode cX6_spareBy 71 = .ok (.if_icmp .ge 60, 3) := by decide +kernel
theorem dX6_spareBy_74 : decode cX6_spareBy 74 = .ok (.iload_n 2, 1) := by decide +kernel
theorem dX6_spareBy_75 : decode cX6_spareBy 75 = .ok (.iconst 1, 1) := by decide +kernel
theorem dX6_spareBy_76 : decode cX6_spareBy 76 = .ok (.iadd, 1) := by decide +kernel
theorem dX6_spareBy_77 : decode cX6_spareBy 77 = .ok (.istore_n 3, 1) := by decide +kernel
theorem dX6_spareBy_78 : decode cX6_spareBy 78 = .ok (.iload_n 3, 1) := by decide +kernel
theorem dX6_spareBy_79 : decode cX6_spareBy 79 = .ok (.aload_n 0, 1) := by decide +kernel
theorem dX6_spareBy_80 : decode cX6_spareBy 80 = .ok (.getfield 184, 3) := by decide +kernel
theorem dX6_spareBy_83 : decode cX6_spareBy 83 = .ok (.if_icmp .ge 42, 3) := by decide +kernel
theorem dX6_spareBy_86 : decode cX6_spareBy 86 = .ok (.aload_n 0, 1) := by decide +kernel
theorem dX6_spareBy_87 : decode cX6_spareBy 87 = .ok (.iconst 1, 1) := by decide +kernel
theorem dX6_spareBy_88 : decode cX6_spareBy 88 = .ok (.iload_n 2, 1) := by decide +kernel
theorem dX6_spareBy_89 : decode cX6_spareBy 89 = .ok (.ishl, 1) := by decide +kernel
theorem dX6_spareBy_90 : decode cX6_spareBy 90 = .ok (.iconst 1, 1) := by decide +kernel
theorem dX6_spareBy_91 : decode cX6_spareBy 91 = .ok (.iload_n 3, 1) := by decide +kernel
theorem dX6_spareBy_92 : decode cX6_spareBy 92 = .ok (.ishl, 1) := by decide +kernel
theorem dX6_spareBy_93 : decode cX6_spareBy 93 = .ok (.ior, 1) := by decide +kernel
theorem dX6_spareBy_94 : decode cX6_spareBy 94 = .ok (.invokevirtual 258, 3) := by decide +kernel
theorem dX6_spareBy_97 : decode cX6_spareBy 97 = .ok (.ifCond .eq 22, 3) := by decide +kernel
theorem dX6_spareBy_100 : decode cX6_spareBy 100 = .ok (.iload_n 1, 1) := by decide +kernel
theorem dX6_spareBy_101 : decode cX6_spareBy 101 = .ok (.iconst (-1), 1) := by decide +kernel
theorem dX6_spareBy_102 : decode cX6_spareBy 102 = .ok (.if_icmp .ne 7, 3) := by decide +kernel
theorem dX6_spareBy_105 : decode cX6_spareBy 105 = .ok (.iconst 2, 1) := by decide +kernel
theorem dX6_spareBy_106 : decode cX6_spareBy 106 = .ok (.goto 12, 3) := by decide +kernel
theorem dX6_spareBy_109 : decode cX6_spareBy 109 = .ok (.iload_n 1, 1) := by decide +kernel
theorem dX6_spareBy_110 : decode cX6_spareBy 110 = .ok (.ifCond .ne 7, 3) := by decide +kernel
theorem dX6_spareBy_113 : decode cX6_spareBy 113 = .ok (.iload_n 2, 1) := by decide +kernel
theorem dX6_spareBy_114 : decode cX6_spareBy 114 = .ok (.goto 4, 3) := by decide +kernel
theorem dX6_spareBy_117 : decode cX6_spareBy 117 = .ok (.iload_n 3, 1) := by decide +kernel
theorem dX6_spareBy_118 : decode cX6_spareBy 118 = .ok (.ireturn, 1) := by decide +kernel
theorem dX6_spareBy_119 : decode cX6_spareBy 119 = .ok (.iinc 3 1, 3) := by decide +kernel
theorem dX6_spareBy_122 : decode cX6_spareBy 122 = .ok (.goto (-44), 3) := by decide +kernel
theorem dX6_spareBy_125 : decode cX6_spareBy 125 = .ok (.iinc 2 1, 3) := by decide +kernel
theorem dX6_spareBy_128 : decode cX6_spareBy 128 = .ok (.goto (-62), 3) := by decide +kernel
theorem dX6_spareBy_131 : decode cX6_spareBy 131 = .ok (.iconst (-1), 1) := by decide +kernel
theorem dX6_spareBy_132 : decode cX6_spareBy 132 = .ok (.ireturn, 1) := by decide +kernel
theorem dX6_spare_0 : decode cX6_spare 0 = .ok (.aload_n 0, 1) := by decide +kernel
theorem dX6_spare_1 : decode cX6_spare 1 = .ok (.invokevirtual 222, 3) := by decide +kernel
theorem dX6_spare_4 : decode cX6_spare 4 = .ok (.iload_n 1, 1) := by decide +kernel
theorem dX6_spare_5 : decode cX6_spare 5 = .ok (.i2l, 1) := by decide +kernel
theorem dX6_spare_6 : decode cX6_spare 6 = .ok (.ldc2_w 261, 3) := by decide +kernel
theorem dX6_spare_9 : decode cX6_spare 9 = .ok (.lconst 1, 1) := by decide +kernel
theorem dX6_spare_10 : decode cX6_spare 10 = .ok (.invokestatic 94, 3) := by decide +kernel
theorem dX6_spare_13 : decode cX6_spare 13 = .ok (.ifCond .eq 11, 3) := by decide +kernel
theorem dX6_spare_16 : decode cX6_spare 16 = .ok (.aload_n 0, 1) := by decide +kernel
theorem dX6_spare_17 : decode cX6_spare 17 = .ok (.iload_n 1, 1) := by decide +kernel
theorem dX6_spare_18 : decode cX6_spare 18 = .ok (.invokevirtual 263, 3) := by decide +kernel
theorem dX6_spare_21 : decode cX6_spare 21 = .ok (.goto 5, 3) := by decide +kernel
theorem dX6_spare_24 : decode cX6_spare 24 = .ok (.bipush (-2), 2) := by decide +kernel
theorem dX6_spare_26 : decode cX6_spare 26 = .ok (.ireturn, 1) := by decide +kernel
theorem dX6_seen_0 : decode cX6_seen 0 = .ok (.iload_n 1, 1) := by decide +kernel
theorem dX6_seen_1 : decode cX6_seen 1 = .ok (.invokestatic 181, 3) := by decide +kernel
theorem dX6_seen_4 : decode cX6_seen 4 = .ok (.ifCond .eq 27, 3) := by decide +kernel
theorem dX6_seen_7 : decode cX6_seen 7 = .ok (.iload_n 2, 1) := by decide +kernel
theorem dX6_seen_8 : decode cX6_seen 8 = .ok (.i2l, 1) := by decide +kernel
theorem dX6_seen_9 : decode cX6_seen 9 = .ok (.lconst 0, 1) := by decide +kernel
theorem dX6_seen_10 : decode cX6_seen 10 = .ok (.ldc2_w 266, 3) := by decide +kernel
theorem dX6_seen_13 : decode cX6_seen 13 = .ok (.invokestatic 94, 3) := by decide +kernel
theorem dX6_seen_16 : decode cX6_seen 16 = .ok (.ifCond .eq 15, 3) := by decide +kernel
theorem dX6_seen_19 : decode cX6_seen 19 = .ok (.iload_n 3, 1) := by decide +kernel
theorem dX6_seen_20 : decode cX6_seen 20 = .ok (.i2l, 1) := by decide +kernel
theorem dX6_seen_21 : decode cX6_seen 21 = .ok (.lconst 0, 1) := by decide +kernel
theorem dX6_seen_22 : decode cX6_seen 22 = .ok (.ldc2_w 268, 3) := by decide +kernel
theorem dX6_seen_25 : decode cX6_seen 25 = .ok (.invokestatic 94, 3) := by decide +kernel
theorem dX6_seen_28 : decode cX6_seen 28 = .ok (.ifCond .ne 6, 3) := by decide +kernel
theorem dX6_seen_31 : decode cX6_seen 31 = .ok (.bipush (-2), 2) := by decide +kernel
theorem dX6_seen_33 : decode cX6_seen 33 = .ok (.ireturn, 1) := by decide +kernel
theorem dX6_seen_34 : decode cX6_seen 34 = .ok (.aload_n 0, 1) := by decide +kernel
theorem dX6_seen_35 : decode cX6_seen 35 = .ok (.getfield 270, 3) := by decide +kernel
theorem dX6_seen_38 : decode cX6_seen 38 = .ok (.bipush 8, 2) := by decide +kernel
theorem dX6_seen_40 : decode cX6_seen 40 = .ok (.if_icmp .ne 6, 3) := by decide +kernel
theorem dX6_seen_43 : decode cX6_seen 43 = .ok (.bipush (-4), 2) := by decide +kernel
theorem dX6_seen_45 : decode cX6_seen 45 = .ok (.ireturn, 1) := by decide +kernel
theorem dX6_seen_46 : decode cX6_seen 46 = .ok (.aload_n 0, 1) := by decide +kernel
theorem dX6_seen_47 : decode cX6_seen 47 = .ok (.getfield 82, 3) := by decide +kernel
theorem dX6_seen_50 : decode cX6_seen 50 = .ok (.iconst 3, 1) := by decide +kernel
theorem dX6_seen_51 : decode cX6_seen 51 = .ok (.aload_n 0, 1) := by decide +kernel
theorem dX6_seen_52 : decode cX6_seen 52 = .ok (.getfield 270, 3) := by decide +kernel
theorem dX6_seen_55 : decode cX6_seen 55 = .ok (.imul, 1) := by decide +kernel
theorem dX6_seen_56 : decode cX6_seen 56 = .ok (.iload_n 1, 1) := by decide +kernel
theorem dX6_seen_57 : decode cX6_seen 57 = .ok (.iastore, 1) := by decide +kernel
theorem dX6_seen_58 : decode cX6_seen 58 = .ok (.aload_n 0, 1) := by decide +kernel
theorem dX6_seen_59 : decode cX6_seen 59 = .ok (.getfield 82, 3) := by decide +kernel
theorem dX6_seen_62 : decode cX6_seen 62 = .ok (.iconst 3, 1) := by decide +kernel
theorem dX6_seen_63 : decode cX6_seen 63 = .ok (.aload_n 0, 1) := by decide +kernel
theorem dX6_seen_64 : decode cX6_seen 64 = .ok (.getfield 270, 3) := by decide +kernel
theorem dX6_seen_67 : decode cX6_seen 67 = .ok (.imul, 1) := by decide +kernel
theorem dX6_seen_68 : decode cX6_seen 68 = .ok (.iconst 1, 1) := by decide +kernel
theorem dX6_seen_69 : decode cX6_seen 69 = .ok (.iadd, 1) := by decide +kernel
theorem dX6_seen_70 : decode cX6_seen 70 = .ok (.iload_n 2, 1) := by decide +kernel
theorem dX6_seen_71 : decode cX6_seen 71 = .ok (.iastore, 1) := by decide +kernel
theorem dX6_seen_72 : decode cX6_seen 72 = .ok (.aload_n 0, 1) := by decide +kernel
theorem dX6_seen_73 : decode cX6_seen 73 = .ok (.getfield 82, 3) := by decide +kernel
theorem dX6_seen_76 : decode cX6_seen 76 = .ok (.iconst 3, 1) := by decide +kernel
theorem dX6_seen_77 : decode cX6_seen 77 = .ok (.aload_n 0, 1) := by decide +kernel
theorem dX6_seen_78 : decode cX6_seen 78 = .ok (.getfield 270, 3) := by decide +kernel
theorem dX6_seen_81 : decode cX6_seen 81 = .ok (.imul, 1) := by decide +kernel
theorem dX6_seen_82 : decode cX6_seen 82 = .ok (.iconst 2, 1) := by decide +kernel
theorem dX6_seen_83 : decode cX6_seen 83 = .ok (.iadd, 1) := by decide +kernel
theorem dX6_seen_84 : decode cX6_seen 84 = .ok (.iload_n 3, 1) := by decide +kernel
theorem dX6_seen_85 : decode cX6_seen 85 = .ok (.iastore, 1) := by decide +kernel
theorem dX6_seen_86 : decode cX6_seen 86 = .ok (.aload_n 0, 1) := by decide +kernel
theorem dX6_seen_87 : decode cX6_seen 87 = .ok (.dup, 1) := by decide +kernel
theorem dX6_seen_88 : decode cX6_seen 88 = .ok (.getfield 270, 3) := by decide +kernel
theorem dX6_seen_91 : decode cX6_seen 91 = .ok (.iconst 1, 1) := by decide +kernel
theorem dX6_seen_92 : decode cX6_seen 92 = .ok (.iadd, 1) := by decide +kernel
theorem dX6_seen_93 : decode cX6_seen 93 = .ok (.putfield 270, 3) := by decide +kernel
theorem dX6_seen_96 : decode cX6_seen 96 = .ok (.aload_n 0, 1) := by decide +kernel
theorem dX6_seen_97 : decode cX6_seen 97 = .ok (.getfield 270, 3) := by decide +kernel
theorem dX6_seen_100 : decode cX6_seen 100 = .ok (.ireturn, 1) := by decide +kernel
theorem dX6_forget_0 : decode cX6_forget 0 = .ok (.aload_n 0, 1) := by decide +kernel
theorem dX6_forget_1 : decode cX6_forget 1 = .ok (.getfield 270, 3) := by decide +kernel
theorem dX6_forget_4 : decode cX6_forget 4 = .ok (.istore_n 1, 1) := by decide +kernel
theorem dX6_forget_5 : decode cX6_forget 5 = .ok (.aload_n 0, 1) := by decide +kernel
theorem dX6_forget_6 : decode cX6_forget 6 = .ok (.iconst 0, 1) := by decide +kernel
theorem dX6_forget_7 : decode cX6_forget 7 = .ok (.putfield 270, 3) := by decide +kernel
theorem dX6_forget_10 : decode cX6_forget 10 = .ok (.iload_n 1, 1) := by decide +kernel
theorem dX6_forget_11 : decode cX6_forget 11 = .ok (.ireturn, 1) := by decide +kernel
theorem dX6_isSeen_0 : decode cX6_isSeen 0 = .ok (.aload_n 0, 1) := by decide +kernel
theorem dX6_isSeen_1 : decode cX6_isSeen 1 = .ok (.invokevirtual 219, 3) := by decide +kernel
theorem dX6_isSeen_4 : decode cX6_isSeen 4 = .ok (.iconst 1, 1) := by decide +kernel
theorem dX6_isSeen_5 : decode cX6_isSeen 5 = .ok (.istore_n 1, 1) := by decide +kernel
theorem dX6_isSeen_6 : decode cX6_isSeen 6 = .ok (.iconst 0, 1) := by decide +kernel
theorem dX6_isSeen_7 : decode cX6_isSeen 7 = .ok (.istore_n 2, 1) := by decide +kernel
theorem dX6_isSeen_8 : decode cX6_isSeen 8 = .ok (.iload_n 2, 1) := by decide +kernel
theorem dX6_isSeen_9 : decode cX6_isSeen 9 = .ok (.aload_n 0, 1) := by decide +kernel
theorem dX6_isSeen_10 : decode cX6_isSeen 10 = .ok (.getfield 270, 3) := by decide +kernel
theorem dX6_isSeen_13 : decode cX6_isSeen 13 = .ok (.if_icmp .ge 69, 3) := by decide +kernel
theorem dX6_isSeen_16 : decode cX6_isSeen 16 = .ok (.aload_n 0, 1) := by decide +kernel
theorem dX6_isSeen_17 : decode cX6_isSeen 17 = .ok (.getfield 82, 3) := by decide +kernel
theorem dX6_isSeen_20 : decode cX6_isSeen 20 = .ok (.iconst 3, 1) := by decide +kernel
theorem dX6_isSeen_21 : decode cX6_isSeen 21 = .ok (.iload_n 2, 1) := by decide +kernel
theorem dX6_isSeen_22 : decode cX6_isSeen 22 = .ok (.imul, 1) := by decide +kernel
theorem dX6_isSeen_23 : decode cX6_isSeen 23 = .ok (.iconst 1, 1) := by decide +kernel
theorem dX6_isSeen_24 : decode cX6_isSeen 24 = .ok (.iadd, 1) := by decide +kernel
theorem dX6_isSeen_25 : decode cX6_isSeen 25 = .ok (.iaload, 1) := by decide +kernel
theorem dX6_isSeen_26 : decode cX6_isSeen 26 = .ok (.istore_n 3, 1) := by decide +kernel
theorem dX6_isSeen_27 : decode cX6_isSeen 27 = .ok (.iload_n 1, 1) := by decide +kernel
theorem dX6_isSeen_28 : decode cX6_isSeen 28 = .ok (.ifCond .eq 46, 3) := by decide +kernel
theorem dX6_isSeen_31 : decode cX6_isSeen 31 = .ok (.aload_n 0, 1) := by decide +kernel
theorem dX6_isSeen_32 : decode cX6_isSeen 32 = .ok (.iload_n 3, 1) := by decide +kernel
theorem dX6_isSeen_33 : decode cX6_isSeen 33 = .ok (.invokevirtual 172, 3) := by decide +kernel
theorem dX6_isSeen_36 : decode cX6_isSeen 36 = .ok (.ifCond .eq 38, 3) := by decide +kernel
theorem dX6_isSeen_39 : decode cX6_isSeen 39 = .ok (.aload_n 0, 1) := by decide +kernel
theorem dX6_isSeen_40 : decode cX6_isSeen 40 = .ok (.getfield 70, 3) := by decide +kernel
theorem dX6_isSeen_43 : decode cX6_isSeen 43 = .ok (.bipush 8, 2) := by decide +kernel
theorem dX6_isSeen_45 : decode cX6_isSeen 45 = .ok (.aload_n 0, 1) := by decide +kernel
theorem dX6_isSeen_46 : decode cX6_isSeen 46 = .ok (.getfield 82, 3) := by decide +kernel
theorem dX6_isSeen_49 : decode cX6_isSeen 49 = .ok (.iconst 3, 1) := by decide +kernel
theorem dX6_isSeen_50 : decode cX6_isSeen 50 = .ok (.iload_n 2, 1) := by decide +kernel
theorem dX6_isSeen_51 : decode cX6_isSeen 51 = .ok (.imul, 1) := by decide +kernel
theorem dX6_isSeen_52 : decode cX6_isSeen 52 = .ok (.iaload, 1) := by decide +kernel
theorem dX6_isSeen_53 : decode cX6_isSeen 53 = .ok (.imul, 1) := by decide +kernel
theorem dX6_isSeen_54 : decode cX6_isSeen 54 = .ok (.iload_n 3, 1) := by decide +kernel
theorem dX6_isSeen_55 : decode cX6_isSeen 55 = .ok (.iadd, 1) := by decide +kernel
theorem dX6_isSeen_56 : decode cX6_isSeen 56 = .ok (.iaload, 1) := by decide +kernel
theorem dX6_isSeen_57 : decode cX6_isSeen 57 = .ok (.aload_n 0, 1) := by decide +kernel
theorem dX6_isSeen_58 : decode cX6_isSeen 58 = .ok (.getfield 82, 3) := by decide +kernel
theorem dX6_isSeen_61 : decode cX6_isSeen 61 = .ok (.iconst 3, 1) := by decide +kernel
theorem dX6_isSeen_62 : decode cX6_isSeen 62 = .ok (.iload_n 2, 1) := by decide +kernel
theorem dX6_isSeen_63 : decode cX6_isSeen 63 = .ok (.imul, 1) := by decide +kernel
theorem dX6_isSeen_64 : decode cX6_isSeen 64 = .ok (.iconst 2, 1) := by decide +kernel
theorem dX6_isSeen_65 : decode cX6_isSeen 65 = .ok (.iadd, 1) := by decide +kernel
theorem dX6_isSeen_66 : decode cX6_isSeen 66 = .ok (.iaload, 1) := by decide +kernel
theorem dX6_isSeen_67 : decode cX6_isSeen 67 = .ok (.if_icmp .ne 7, 3) := by decide +kernel
theorem dX6_isSeen_70 : decode cX6_isSeen 70 = .ok (.iconst 1, 1) := by decide +kernel
theorem dX6_isSeen_71 : decode cX6_isSeen 71 = .ok (.goto 4, 3) := by decide +kernel
theorem dX6_isSeen_74 : decode cX6_isSeen 74 = .ok (.iconst 0, 1) := by decide +kernel
theorem dX6_isSeen_75 : decode cX6_isSeen 75 = .ok (.istore_n 1, 1) := by decide +kernel
theorem dX6_isSeen_76 : decode cX6_isSeen 76 = .ok (.iinc 2 1, 3) := by decide +kernel
theorem dX6_isSeen_79 : decode cX6_isSeen 79 = .ok (.goto (-71), 3) := by decide +kernel
theorem dX6_isSeen_82 : decode cX6_isSeen 82 = .ok (.iload_n 1, 1) := by decide +kernel
theorem dX6_isSeen_83 : decode cX6_isSeen 83 = .ok (.ireturn, 1) := by decide +kernel
theorem dX6_neverNow_0 : decode cX6_neverNow 0 = .ok (.iconst 0, 1) := by decide +kernel
theorem dX6_neverNow_1 : decode cX6_neverNow 1 = .ok (.istore_n 1, 1) := by decide +kernel
theorem dX6_neverNow_2 : decode cX6_neverNow 2 = .ok (.iconst 0, 1) := by decide +kernel
theorem dX6_neverNow_3 : decode cX6_neverNow 3 = .ok (.istore_n 2, 1) := by decide +kernel
theorem dX6_neverNow_4 : decode cX6_neverNow 4 = .ok (.iload_n 2, 1) := by decide +kernel
theorem dX6_neverNow_5 : decode cX6_neverNow 5 = .ok (.aload_n 0, 1) := by decide +kernel
theorem dX6_neverNow_6 : decode cX6_neverNow 6 = .ok (.getfield 184, 3) := by decide +kernel
theorem dX6_neverNow_9 : decode cX6_neverNow 9 = .ok (.if_icmp .ge 33, 3) := by decide +kernel
theorem dX6_neverNow_12 : decode cX6_neverNow 12 = .ok (.aload_n 0, 1) := by decide +kernel
theorem dX6_neverNow_13 : decode cX6_neverNow 13 = .ok (.iconst 1, 1) := by decide +kernel
theorem dX6_neverNow_14 : decode cX6_neverNow 14 = .ok (.iload_n 2, 1) := by decide +kernel
theorem dX6_neverNow_15 : decode cX6_neverNow 15 = .ok (.ishl, 1) := by decide +kernel
theorem dX6_neverNow_16 : decode cX6_neverNow 16 = .ok (.putfield 189, 3) := by decide +kernel
theorem dX6_neverNow_19 : decode cX6_neverNow 19 = .ok (.iload_n 1, 1) := by decide +kernel
theorem dX6_neverNow_20 : decode cX6_neverNow 20 = .ok (.aload_n 0, 1) := by decide +kernel
theorem dX6_neverNow_21 : decode cX6_neverNow 21 = .ok (.invokevirtual 273, 3) := by decide +kernel
theorem dX6_neverNow_24 : decode cX6_neverNow 24 = .ok (.ifCond .eq 9, 3) := by decide +kernel
theorem dX6_neverNow_27 : decode cX6_neverNow 27 = .ok (.iconst 1, 1) := by decide +kernel
theorem dX6_neverNow_28 : decode cX6_neverNow 28 = .ok (.iload_n 2, 1) := by decide +kernel
theorem dX6_neverNow_29 : decode cX6_neverNow 29 = .ok (.ishl, 1) := by decide +kernel
theorem dX6_neverNow_30 : decode cX6_neverNow 30 = .ok (.goto 4, 3) := by decide +kernel
theorem dX6_neverNow_33 : decode cX6_neverNow 33 = .ok (.iconst 0, 1) := by decide +kernel
theorem dX6_neverNow_34 : decode cX6_neverNow 34 = .ok (.ior, 1) := by decide +kernel
theorem dX6_neverNow_35 : decode cX6_neverNow 35 = .ok (.istore_n 1, 1) := by decide +kernel
theorem dX6_neverNow_36 : decode cX6_neverNow 36 = .ok (.iinc 2 1, 3) := by decide +kernel
theorem dX6_neverNow_39 : decode cX6_neverNow 39 = .ok (.goto (-35), 3) := by decide +kernel
theorem dX6_neverNow_42 : decode cX6_neverNow 42 = .ok (.aload_n 0, 1) := by decide +kernel
theorem dX6_neverNow_43 : decode cX6_neverNow 43 = .ok (.iconst 0, 1) := by decide +kernel
theorem dX6_neverNow_44 : decode cX6_neverNow 44 = .ok (.putfield 189, 3) := by decide +kernel
theorem dX6_neverNow_47 : decode cX6_neverNow 47 = .ok (.iload_n 1, 1) := by decide +kernel
theorem dX6_neverNow_48 : decode cX6_neverNow 48 = .ok (.ireturn, 1) := by decide +kernel
theorem dX6_never_0 : decode cX6_never 0 = .ok (.aload_n 0, 1) := by decide +kernel
theorem dX6_never_1 : decode cX6_never 1 = .ok (.invokevirtual 222, 3) := by decide +kernel
theorem dX6_never_4 : decode cX6_never 4 = .ok (.aload_n 0, 1) := by decide +kernel
theorem dX6_never_5 : decode cX6_never 5 = .ok (.invokevirtual 277, 3) := by decide +kernel
theorem dX6_never_8 : decode cX6_never 8 = .ok (.ireturn, 1) := by decide +kernel
theorem dX6_sortOf_0 : decode cX6_sortOf 0 = .ok (.aload_n 0, 1) := by decide +kernel
theorem dX6_sortOf_1 : decode cX6_sortOf 1 = .ok (.getfield 28, 3) := by decide +kernel
theorem dX6_sortOf_4 : decode cX6_sortOf 4 = .ok (.iconst 2, 1) := by decide +kernel
theorem dX6_sortOf_5 : decode cX6_sortOf 5 = .ok (.iload_n 1, 1) := by decide +kernel
theorem dX6_sortOf_6 : decode cX6_sortOf 6 = .ok (.imul, 1) := by decide +kernel
theorem dX6_sortOf_7 : decode cX6_sortOf 7 = .ok (.iaload, 1) := by decide +kernel
theorem dX6_sortOf_8 : decode cX6_sortOf 8 = .ok (.istore_n 2, 1) := by decide +kernel
theorem dX6_sortOf_9 : decode cX6_sortOf 9 = .ok (.iconst 0, 1) := by decide +kernel
theorem dX6_sortOf_10 : decode cX6_sortOf 10 = .ok (.istore_n 3, 1) := by decide +kernel
theorem dX6_sortOf_11 : decode cX6_sortOf 11 = .ok (.iconst 0, 1) := by decide +kernel
theorem dX6_sortOf_12 : decode cX6_sortOf 12 = .ok (.istore 4, 2) := by decide +kernel
theorem dX6_sortOf_14 : decode cX6_sortOf 14 = .ok (.iload 4, 2) := by decide +kernel
theorem dX6_sortOf_16 : decode cX6_sortOf 16 = .ok (.iconst 3, 1) := by decide +kernel
theorem dX6_sortOf_17 : decode cX6_sortOf 17 = .ok (.if_icmp .ge 37, 3) := by decide +kernel
theorem dX6_sortOf_20 : decode cX6_sortOf 20 = .ok (.aload_n 0, 1) := by decide +kernel
theorem dX6_sortOf_21 : decode cX6_sortOf 21 = .ok (.getfield 28, 3) := by decide +kernel
theorem dX6_sortOf_24 : decode cX6_sortOf 24 = .ok (.iconst 2, 1) := by decide +kernel
theorem dX6_sortOf_25 : decode cX6_sortOf 25 = .ok (.iload_n 1, 1) := by decide +kernel
theorem dX6_sortOf_26 : decode cX6_sortOf 26 = .ok (.imul, 1) := by decide +kernel
theorem dX6_sortOf_27 : decode cX6_sortOf 27 = .ok (.iload 4, 2) := by decide +kernel
theorem dX6_sortOf_29 : decode cX6_sortOf 29 = .ok (.iastore, 1) := by decide +kernel
theorem dX6_sortOf_30 : decode cX6_sortOf 30 = .ok (.iload_n 3, 1) := by decide +kernel
theorem dX6_sortOf_31 : decode cX6_sortOf 31 = .ok (.aload_n 0, 1) := by decide +kernel
theorem dX6_sortOf_32 : decode cX6_sortOf 32 = .ok (.invokevirtual 273, 3) := by decide +kernel
theorem dX6_sortOf_35 : decode cX6_sortOf 35 = .ok (.ifCond .eq 10, 3) := by decide +kernel
theorem dX6_sortOf_38 : decode cX6_sortOf 38 = .ok (.iconst 1, 1) := by decide +kernel
theorem dX6_sortOf_39 : decode cX6_sortOf 39 = .ok (.iload 4, 2) := by decide +kernel
theorem dX6_sortOf_41 : decode cX6_sortOf 41 = .ok (.ishl, 1) := by decide +kernel
theorem dX6_sortOf_42 : decode cX6_sortOf 42 = .ok (.goto 4, 3) := by decide +kernel
theorem dX6_sortOf_45 : decode cX6_sortOf 45 = .ok (.iconst 0, 1) := by decide +kernel
theorem dX6_sortOf_46 : decode cX6_sortOf 46 = .ok (.ior, 1) := by decide +kernel
theorem dX6_sortOf_47 : decode cX6_sortOf 47 = .ok (.istore_n 3, 1) := by decide +kernel
theorem dX6_sortOf_48 : decode cX6_sortOf 48 = .ok (.iinc 4 1, 3) := by decide +kernel
theorem dX6_sortOf_51 : decode cX6_sortOf 51 = .ok (.goto (-37), 3) := by decide +kernel
theorem dX6_sortOf_54 : decode cX6_sortOf 54 = .ok (.aload_n 0, 1) := by decide +kernel
theorem dX6_sortOf_55 : decode cX6_sortOf 55 = .ok (.getfield 28, 3) := by decide +kernel
theorem dX6_sortOf_58 : decode cX6_sortOf 58 = .ok (.iconst 2, 1) := by decide +kernel
theorem dX6_sortOf_59 : decode cX6_sortOf 59 = .ok (.iload_n 1, 1) := by decide +kernel
theorem dX6_sortOf_60 : decode cX6_sortOf 60 = .ok (.imul, 1) := by decide +kernel
theorem dX6_sortOf_61 : decode cX6_sortOf 61 = .ok (.iload_n 2, 1) := by decide +kernel
theorem dX6_sortOf_62 : decode cX6_sortOf 62 = .ok (.iastore, 1) := by decide +kernel
theorem dX6_sortOf_63 : decode cX6_sortOf 63 = .ok (.iload_n 3, 1) := by decide +kernel
theorem dX6_sortOf_64 : decode cX6_sortOf 64 = .ok (.ireturn, 1) := by decide +kernel
theorem dX6_tempersOf_0 : decode cX6_tempersOf 0 = .ok (.aload_n 0, 1) := by decide +kernel
theorem dX6_tempersOf_1 : decode cX6_tempersOf 1 = .ok (.getfield 28, 3) := by decide +kernel
theorem dX6_tempersOf_4 : decode cX6_tempersOf 4 = .ok (.iconst 2, 1) := by decide +kernel
theorem dX6_tempersOf_5 : decode cX6_tempersOf 5 = .ok (.iload_n 1, 1) := by decide +kernel
theorem dX6_tempersOf_6 : decode cX6_tempersOf 6 = .ok (.imul, 1) := by decide +kernel
theorem dX6_tempersOf_7 : decode cX6_tempersOf 7 = .ok (.iconst 1, 1) := by decide +kernel
theorem dX6_tempersOf_8 : decode cX6_tempersOf 8 = .ok (.iadd, 1) := by decide +kernel
theorem dX6_tempersOf_9 : decode cX6_tempersOf 9 = .ok (.iaload, 1) := by decide +kernel
theorem dX6_tempersOf_10 : decode cX6_tempersOf 10 = .ok (.istore_n 2, 1) := by decide +kernel
theorem dX6_tempersOf_11 : decode cX6_tempersOf 11 = .ok (.iconst 0, 1) := by decide +kernel
theorem dX6_tempersOf_12 : decode cX6_tempersOf 12 = .ok (.istore_n 3, 1) := by decide +kernel
theorem dX6_tempersOf_13 : decode cX6_tempersOf 13 = .ok (.iconst 1, 1) := by decide +kernel
theorem dX6_tempersOf_14 : decode cX6_tempersOf 14 = .ok (.istore 4, 2) := by decide +kernel
theorem dX6_tempersOf_16 : decode cX6_tempersOf 16 = .ok (.iload 4, 2) := by decide +kernel
theorem dX6_tempersOf_18 : decode cX6_tempersOf 18 = .ok (.bipush 10, 2) := by decide +kernel
theorem dX6_tempersOf_20 : decode cX6_tempersOf 20 = .ok (.if_icmp .ge 80, 3) := by decide +kernel
theorem dX6_tempersOf_23 : decode cX6_tempersOf 23 = .ok (.aload_n 0, 1) := by decide +kernel
theorem dX6_tempersOf_24 : decode cX6_tempersOf 24 = .ok (.getfield 28, 3) := by decide +kernel
theorem dX6_tempersOf_27 : decode cX6_tempersOf 27 = .ok (.iconst 2, 1) := by decide +kernel
theorem dX6_tempersOf_28 : decode cX6_tempersOf 28 = .ok (.iload_n 1, 1) := by decide +kernel
theorem dX6_tempersOf_29 : decode cX6_tempersOf 29 = .ok (.imul, 1) := by decide +kernel
theorem dX6_tempersOf_30 : decode cX6_tempersOf 30 = .ok (.iconst 1, 1) := by decide +kernel
theorem dX6_tempersOf_31 : decode cX6_tempersOf 31 = .ok (.iadd, 1) := by decide +kernel
theorem dX6_tempersOf_32 : decode cX6_tempersOf 32 = .ok (.iload 4, 2) := by decide +kernel
theorem dX6_tempersOf_34 : decode cX6_tempersOf 34 = .ok (.iastore, 1) := by decide +kernel
theorem dX6_tempersOf_35 : decode cX6_tempersOf 35 = .ok (.iload_n 3, 1) := by decide +kernel
theorem dX6_tempersOf_36 : decode cX6_tempersOf 36 = .ok (.aload_n 0, 1) := by decide +kernel
theorem dX6_tempersOf_37 : decode cX6_tempersOf 37 = .ok (.invokevirtual 273, 3) := by decide +kernel
theorem dX6_tempersOf_40 : decode cX6_tempersOf 40 = .ok (.ifCond .eq 10, 3) := by decide +kernel
theorem dX6_tempersOf_43 : decode cX6_tempersOf 43 = .ok (.iconst 1, 1) := by decide +kernel
theorem dX6_tempersOf_44 : decode cX6_tempersOf 44 = .ok (.iload 4, 2) := by decide +kernel
theorem dX6_tempersOf_46 : decode cX6_tempersOf 46 = .ok (.ishl, 1) := by decide +kernel
theorem dX6_tempersOf_47 : decode cX6_tempersOf 47 = .ok (.goto 4, 3) := by decide +kernel
theorem dX6_tempersOf_50 : decode cX6_tempersOf 50 = .ok (.iconst 0, 1) := by decide +kernel
theorem dX6_tempersOf_51 : decode cX6_tempersOf 51 = .ok (.ior, 1) := by decide +kernel
theorem dX6_tempersOf_52 : decode cX6_tempersOf 52 = .ok (.istore_n 3, 1) := by decide +kernel
theorem dX6_tempersOf_53 : decode cX6_tempersOf 53 = .ok (.iconst 0, 1) := by decide +kernel
theorem dX6_tempersOf_54 : decode cX6_tempersOf 54 = .ok (.istore 5, 2) := by decide +kernel
theorem dX6_tempersOf_56 : decode cX6_tempersOf 56 = .ok (.iload 5, 2) := by decide +kernel
theorem dX6_tempersOf_58 : decode cX6_tempersOf 58 = .ok (.bipush 24, 2) := by decide +kernel
theorem dX6_tempersOf_60 : decode cX6_tempersOf 60 = .ok (.if_icmp .ge 34, 3) := by decide +kernel
theorem dX6_tempersOf_63 : decode cX6_tempersOf 63 = .ok (.aload_n 0, 1) := by decide +kernel
theorem dX6_tempersOf_64 : decode cX6_tempersOf 64 = .ok (.getfield 85, 3) := by decide +kernel
theorem dX6_tempersOf_67 : decode cX6_tempersOf 67 = .ok (.bipush 24, 2) := by decide +kernel
theorem dX6_tempersOf_69 : decode cX6_tempersOf 69 = .ok (.iload 4, 2) := by decide +kernel
theorem dX6_tempersOf_71 : decode cX6_tempersOf 71 = .ok (.imul, 1) := by decide +kernel
theorem dX6_tempersOf_72 : decode cX6_tempersOf 72 = .ok (.iload 5, 2) := by decide +kernel
theorem dX6_tempersOf_74 : decode cX6_tempersOf 74 = .ok (.iadd, 1) := by decide +kernel
theorem dX6_tempersOf_75 : decode cX6_tempersOf 75 = .ok (.aload_n 0, 1) := by decide +kernel
theorem dX6_tempersOf_76 : decode cX6_tempersOf 76 = .ok (.getfield 70, 3) := by decide +kernel
theorem dX6_tempersOf_79 : decode cX6_tempersOf 79 = .ok (.bipush 8, 2) := by decide +kernel
theorem dX6_tempersOf_81 : decode cX6_tempersOf 81 = .ok (.iload 5, 2) := by decide +kernel
theorem dX6_tempersOf_83 : decode cX6_tempersOf 83 = .ok (.imul, 1) := by decide +kernel
theorem dX6_tempersOf_84 : decode cX6_tempersOf 84 = .ok (.iload_n 1, 1) := by decide +kernel
theorem dX6_tempersOf_85 : decode cX6_tempersOf 85 = .ok (.iadd, 1) := by decide +kernel
theorem dX6_tempersOf_86 : decode cX6_tempersOf 86 = .ok (.iaload, 1) := by decide +kernel
theorem dX6_tempersOf_87 : decode cX6_tempersOf 87 = .ok (.iastore, 1) := by decide +kernel
theorem dX6_tempersOf_88 : decode cX6_tempersOf 88 = .ok (.iinc 5 1, 3) := by decide +kernel
theorem dX6_tempersOf_91 : decode cX6_tempersOf 91 = .ok (.goto (-35), 3) := by decide +kernel
theorem dX6_tempersOf_94 : decode cX6_tempersOf 94 = .ok (.iinc 4 1, 3) := by decide +kernel
theorem dX6_tempersOf_97 : decode cX6_tempersOf 97 = .ok (.goto (-81), 3) := by decide +kernel
theorem dX6_tempersOf_100 : decode cX6_tempersOf 100 = .ok (.aload_n 0, 1) := by decide +kernel
theorem dX6_tempersOf_101 : decode cX6_tempersOf 101 = .ok (.getfield 28, 3) := by decide +kernel
theorem dX6_tempersOf_104 : decode cX6_tempersOf 104 = .ok (.iconst 2, 1) := by decide +kernel
theorem dX6_tempersOf_105 : decode cX6_tempersOf 105 = .ok (.iload_n 1, 1) := by decide +kernel
theorem dX6_tempersOf_106 : decode cX6_tempersOf 106 = .ok (.imul, 1) := by decide +kernel
theorem dX6_tempersOf_107 : decode cX6_tempersOf 107 = .ok (.iconst 1, 1) := by decide +kernel
theorem dX6_tempersOf_108 : decode cX6_tempersOf 108 = .ok (.iadd, 1) := by decide +kernel
theorem dX6_tempersOf_109 : decode cX6_tempersOf 109 = .ok (.iload_n 2, 1) := by decide +kernel
theorem dX6_tempersOf_110 : decode cX6_tempersOf 110 = .ok (.iastore, 1) := by decide +kernel
theorem dX6_tempersOf_111 : decode cX6_tempersOf 111 = .ok (.iload_n 3, 1) := by decide +kernel
theorem dX6_tempersOf_112 : decode cX6_tempersOf 112 = .ok (.ireturn, 1) := by decide +kernel
theorem dX6_wasOf_0 : decode cX6_wasOf 0 = .ok (.iload_n 2, 1) := by decide +kernel
theorem dX6_wasOf_1 : decode cX6_wasOf 1 = .ok (.ifCond .ne 11, 3) := by decide +kernel
theorem dX6_wasOf_4 : decode cX6_wasOf 4 = .ok (.aload_n 0, 1) := by decide +kernel
theorem dX6_wasOf_5 : decode cX6_wasOf 5 = .ok (.iload_n 1, 1) := by decide +kernel
theorem dX6_wasOf_6 : decode cX6_wasOf 6 = .ok (.invokevirtual 280, 3) := by decide +kernel
theorem dX6_wasOf_9 : decode cX6_wasOf 9 = .ok (.goto 8, 3) := by decide +kernel
theorem dX6_wasOf_12 : decode cX6_wasOf 12 = .ok (.aload_n 0, 1) := by decide +kernel
theorem dX6_wasOf_13 : decode cX6_wasOf 13 = .ok (.iload_n 1, 1) := by decide +kernel
theorem dX6_wasOf_14 : decode cX6_wasOf 14 = .ok (.invokevirtual 283, 3) := by decide +kernel
theorem dX6_wasOf_17 : decode cX6_wasOf 17 = .ok (.ireturn, 1) := by decide +kernel
theorem dX6_was_0 : decode cX6_was 0 = .ok (.aload_n 0, 1) := by decide +kernel
theorem dX6_was_1 : decode cX6_was 1 = .ok (.invokevirtual 222, 3) := by decide +kernel
theorem dX6_was_4 : decode cX6_was 4 = .ok (.aload_n 0, 1) := by decide +kernel
theorem dX6_was_5 : decode cX6_was 5 = .ok (.iload_n 1, 1) := by decide +kernel
theorem dX6_was_6 : decode cX6_was 6 = .ok (.invokevirtual 172, 3) := by decide +kernel
theorem dX6_was_9 : decode cX6_was 9 = .ok (.ifCond .eq 19, 3) := by decide +kernel
theorem dX6_was_12 : decode cX6_was 12 = .ok (.iload_n 2, 1) := by decide +kernel
theorem dX6_was_13 : decode cX6_was 13 = .ok (.invokestatic 175, 3) := by decide +kernel
theorem dX6_was_16 : decode cX6_was 16 = .ok (.ifCond .eq 12, 3) := by decide +kernel
theorem dX6_was_19 : decode cX6_was 19 = .ok (.aload_n 0, 1) := by decide +kernel
theorem dX6_was_20 : decode cX6_was 20 = .ok (.iload_n 1, 1) := by decide +kernel
theorem dX6_was_21 : decode cX6_was 21 = .ok (.iload_n 2, 1) := by decide +kernel
theorem dX6_was_22 : decode cX6_was 22 = .ok (.invokevirtual 286, 3) := by decide +kernel
theorem dX6_was_25 : decode cX6_was 25 = .ok (.goto 5, 3) := by decide +kernel
theorem dX6_was_28 : decode cX6_was 28 = .ok (.bipush (-2), 2) := by decide +kernel
theorem dX6_was_30 : decode cX6_was 30 = .ok (.ireturn, 1) := by decide +kernel
theorem dX6_alike_0 : decode cX6_alike 0 = .ok (.iconst 0, 1) := by decide +kernel
theorem dX6_alike_1 : decode cX6_alike 1 = .ok (.istore_n 3, 1) := by decide +kernel
theorem dX6_alike_2 : decode cX6_alike 2 = .ok (.iconst 1, 1) := by decide +kernel
theorem dX6_alike_3 : decode cX6_alike 3 = .ok (.istore 4, 2) := by decide +kernel
theorem dX6_alike_5 : decode cX6_alike 5 = .ok (.iload 4, 2) := by decide +kernel
theorem dX6_alike_7 : decode cX6_alike 7 = .ok (.bipush 10, 2) := by decide +kernel
theorem dX6_alike_9 : decode cX6_alike 9 = .ok (.if_icmp .ge 90, 3) := by decide +kernel
theorem dX6_alike_12 : decode cX6_alike 12 = .ok (.iconst 0, 1) := by decide +kernel
theorem dX6_alike_13 : decode cX6_alike 13 = .ok (.istore 5, 2) := by decide +kernel
theorem dX6_alike_15 : decode cX6_alike 15 = .ok (.iconst 1, 1) := by decide +kernel
theorem dX6_alike_16 : decode cX6_alike 16 = .ok (.istore 6, 2) := by decide +kernel
theorem dX6_alike_18 : decode cX6_alike 18 = .ok (.iload 6, 2) := by decide +kernel
theorem dX6_alike_20 : decode cX6_alike 20 = .ok (.bipush 10, 2) := by decide +kernel
theorem dX6_alike_22 : decode cX6_alike 22 = .ok (.if_icmp .ge 64, 3) := by decide +kernel
theorem dX6_alike_25 : decode cX6_alike 25 = .ok (.iload 5, 2) := by decide +kernel
theorem dX6_alike_27 : decode cX6_alike 27 = .ok (.iload_n 1, 1) := by decide +kernel
theorem dX6_alike_28 : decode cX6_alike 28 = .ok (.iload 4, 2) := by decide +kernel
theorem dX6_alike_30 : decode cX6_alike 30 = .ok (.invokestatic 192, 3) := by decide +kernel
theorem dX6_alike_33 : decode cX6_alike 33 = .ok (.ifCond .eq 43, 3) := by decide +kernel
theorem dX6_alike_36 : decode cX6_alike 36 = .ok (.iload_n 1, 1) := by decide +kernel
theorem dX6_alike_37 : decode cX6_alike 37 = .ok (.iload 6, 2) := by decide +kernel
theorem dX6_alike_39 : decode cX6_alike 39 = .ok (.invokestatic 192, 3) := by decide +kernel
theorem dX6_alike_42 : decode cX6_alike 42 = .ok (.ifCond .eq 34, 3) := by decide +kernel
theorem dX6_alike_45 : decode cX6_alike 45 = .ok (.aload_n 0, 1) := by decide +kernel
theorem dX6_alike_46 : decode cX6_alike 46 = .ok (.getfield 85, 3) := by decide +kernel
theorem dX6_alike_49 : decode cX6_alike 49 = .ok (.bipush 24, 2) := by decide +kernel
theorem dX6_alike_51 : decode cX6_alike 51 = .ok (.iload 4, 2) := by decide +kernel
theorem dX6_alike_53 : decode cX6_alike 53 = .ok (.imul, 1) := by decide +kernel
theorem dX6_alike_54 : decode cX6_alike 54 = .ok (.iload_n 2, 1) := by decide +kernel
theorem dX6_alike_55 : decode cX6_alike 55 = .ok (.iadd, 1) := by decide +kernel
theorem dX6_alike_56 : decode cX6_alike 56 = .ok (.iaload, 1) := by decide +kernel
theorem dX6_alike_57 : decode cX6_alike 57 = .ok (.aload_n 0, 1) := by decide +kernel
theorem dX6_alike_58 : decode cX6_alike 58 = .ok (.getfield 85, 3) := by decide +kernel
theorem dX6_alike_61 : decode cX6_alike 61 = .ok (.bipush 24, 2) := by decide +kernel
theorem dX6_alike_63 : decode cX6_alike 63 = .ok (.iload 6, 2) := by decide +kernel
theorem dX6_alike_65 : decode cX6_alike 65 = .ok (.imul, 1) := by decide +kernel
theorem dX6_alike_66 : decode cX6_alike 66 = .ok (.iload_n 2, 1) := by decide +kernel
theorem dX6_alike_67 : decode cX6_alike 67 = .ok (.iadd, 1) := by decide +kernel
theorem dX6_alike_68 : decode cX6_alike 68 = .ok (.iaload, 1) := by decide +kernel
theorem dX6_alike_69 : decode cX6_alike 69 = .ok (.if_icmp .ne 7, 3) := by decide +kernel
theorem dX6_alike_72 : decode cX6_alike 72 = .ok (.iconst 1, 1) := by decide +kernel
theorem dX6_alike_73 : decode cX6_alike 73 = .ok (.goto 4, 3) := by decide +kernel
theorem dX6_alike_76 : decode cX6_alike 76 = .ok (.iconst 0, 1) := by decide +kernel
theorem dX6_alike_77 : decode cX6_alike 77 = .ok (.iadd, 1) := by decide +kernel
theorem dX6_alike_78 : decode cX6_alike 78 = .ok (.istore 5, 2) := by decide +kernel
theorem dX6_alike_80 : decode cX6_alike 80 = .ok (.iinc 6 1, 3) := by decide +kernel
theorem dX6_alike_83 : decode cX6_alike 83 = .ok (.goto (-65), 3) := by decide +kernel
theorem dX6_alike_86 : decode cX6_alike 86 = .ok (.iload 5, 2) := by decide +kernel
theorem dX6_alike_88 : decode cX6_alike 88 = .ok (.iload_n 3, 1) := by decide +kernel
theorem dX6_alike_89 : decode cX6_alike 89 = .ok (.invokestatic 205, 3) := by decide +kernel
theorem dX6_alike_92 : decode cX6_alike 92 = .ok (.istore_n 3, 1) := by decide +kernel
theorem dX6_alike_93 : decode cX6_alike 93 = .ok (.iinc 4 1, 3) := by decide +kernel
theorem dX6_alike_96 : decode cX6_alike 96 = .ok (.goto (-91), 3) := by decide +kernel
theorem dX6_alike_99 : decode cX6_alike 99 = .ok (.iload_n 3, 1) := by decide +kernel
theorem dX6_alike_100 : decode cX6_alike 100 = .ok (.ireturn, 1) := by decide +kernel
theorem dX6_askOf_0 : decode cX6_askOf 0 = .ok (.aload_n 0, 1) := by decide +kernel
theorem dX6_askOf_1 : decode cX6_askOf 1 = .ok (.iload_n 1, 1) := by decide +kernel
theorem dX6_askOf_2 : decode cX6_askOf 2 = .ok (.invokevirtual 283, 3) := by decide +kernel
theorem dX6_askOf_5 : decode cX6_askOf 5 = .ok (.istore_n 2, 1) := by decide +kernel
theorem dX6_askOf_6 : decode cX6_askOf 6 = .ok (.iconst 0, 1) := by decide +kernel
theorem dX6_askOf_7 : decode cX6_askOf 7 = .ok (.istore_n 3, 1) := by decide +kernel
theorem dX6_askOf_8 : decode cX6_askOf 8 = .ok (.iconst 1, 1) := by decide +kernel
theorem dX6_askOf_9 : decode cX6_askOf 9 = .ok (.istore 4, 2) := by decide +kernel
theorem dX6_askOf_11 : decode cX6_askOf 11 = .ok (.iload 4, 2) := by decide +kernel
theorem dX6_askOf_13 : decode cX6_askOf 13 = .ok (.bipush 24, 2) := by decide +kernel
theorem dX6_askOf_15 : decode cX6_askOf 15 = .ok (.if_icmp .ge 32, 3) := by decide +kernel
theorem dX6_askOf_18 : decode cX6_askOf 18 = .ok (.aload_n 0, 1) := by decide +kernel
theorem dX6_askOf_19 : decode cX6_askOf 19 = .ok (.iload_n 2, 1) := by decide +kernel
theorem dX6_askOf_20 : decode cX6_askOf 20 = .ok (.iload 4, 2) := by decide +kernel
theorem dX6_askOf_22 : decode cX6_askOf 22 = .ok (.invokevirtual 289, 3) := by decide +kernel
theorem dX6_askOf_25 : decode cX6_askOf 25 = .ok (.aload_n 0, 1) := by decide +kernel
theorem dX6_askOf_26 : decode cX6_askOf 26 = .ok (.iload_n 2, 1) := by decide +kernel
theorem dX6_askOf_27 : decode cX6_askOf 27 = .ok (.iload_n 3, 1) := by decide +kernel
theorem dX6_askOf_28 : decode cX6_askOf 28 = .ok (.invokevirtual 289, 3) := by decide +kernel
theorem dX6_askOf_31 : decode cX6_askOf 31 = .ok (.if_icmp .ge 8, 3) := by decide +kernel
theorem dX6_askOf_34 : decode cX6_askOf 34 = .ok (.iload 4, 2) := by decide +kernel
theorem dX6_askOf_36 : decode cX6_askOf 36 = .ok (.goto 4, 3) := by decide +kernel
theorem dX6_askOf_39 : decode cX6_askOf 39 = .ok (.iload_n 3, 1) := by decide +kernel
theorem dX6_askOf_40 : decode cX6_askOf 40 = .ok (.istore_n 3, 1) := by decide +kernel
theorem dX6_askOf_41 : decode cX6_askOf 41 = .ok (.iinc 4 1, 3) := by decide +kernel
theorem dX6_askOf_44 : decode cX6_askOf 44 = .ok (.goto (-33), 3) := by decide +kernel
theorem dX6_askOf_47 : decode cX6_askOf 47 = .ok (.iload_n 3, 1) := by decide +kernel
theorem dX6_askOf_48 : decode cX6_askOf 48 = .ok (.ireturn, 1) := by decide +kernel
theorem dX6_ask_0 : decode cX6_ask 0 = .ok (.aload_n 0, 1) := by decide +kernel
theorem dX6_ask_1 : decode cX6_ask 1 = .ok (.invokevirtual 222, 3) := by decide +kernel
theorem dX6_ask_4 : decode cX6_ask 4 = .ok (.aload_n 0, 1) := by decide +kernel
theorem dX6_ask_5 : decode cX6_ask 5 = .ok (.iload_n 1, 1) := by decide +kernel
theorem dX6_ask_6 : decode cX6_ask 6 = .ok (.invokevirtual 172, 3) := by decide +kernel
theorem dX6_ask_9 : decode cX6_ask 9 = .ok (.ifCond .eq 11, 3) := by decide +kernel
theorem dX6_ask_12 : decode cX6_ask 12 = .ok (.aload_n 0, 1) := by decide +kernel
theorem dX6_ask_13 : decode cX6_ask 13 = .ok (.iload_n 1, 1) := by decide +kernel
theorem dX6_ask_14 : decode cX6_ask 14 = .ok (.invokevirtual 292, 3) := by decide +kernel
theorem dX6_ask_17 : decode cX6_ask 17 = .ok (.goto 5, 3) := by decide +kernel
theorem dX6_ask_20 : decode cX6_ask 20 = .ok (.bipush (-2), 2) := by decide +kernel
theorem dX6_ask_22 : decode cX6_ask 22 = .ok (.ireturn, 1) := by decide +kernel
theorem dX6_chanceOf_0 : decode cX6_chanceOf 0 = .ok (.lconst 0, 1) := by decide +kernel
theorem dX6_chanceOf_1 : decode cX6_chanceOf 1 = .ok (.lstore 4, 2) := by decide +kernel
theorem dX6_chanceOf_3 : decode cX6_chanceOf 3 = .ok (.iconst 0, 1) := by decide +kernel
theorem dX6_chanceOf_4 : decode cX6_chanceOf 4 = .ok (.istore 6, 2) := by decide +kernel
theorem dX6_chanceOf_6 : decode cX6_chanceOf 6 = .ok (.iload 6, 2) := by decide +kernel
theorem dX6_chanceOf_8 : decode cX6_chanceOf 8 = .ok (.iconst 1, 1) := by decide +kernel
theorem dX6_chanceOf_9 : decode cX6_chanceOf 9 = .ok (.aload_n 0, 1) := by decide +kernel
theorem dX6_chanceOf_10 : decode cX6_chanceOf 10 = .ok (.getfield 184, 3) := by decide +kernel
theorem dX6_chanceOf_13 : decode cX6_chanceOf 13 = .ok (.ishl, 1) := by decide +kernel
theorem dX6_chanceOf_14 : decode cX6_chanceOf 14 = .ok (.if_icmp .ge 86, 3) := by decide +kernel
theorem dX6_chanceOf_17 : decode cX6_chanceOf 17 = .ok (.aload_n 0, 1) := by decide +kernel
theorem dX6_chanceOf_18 : decode cX6_chanceOf 18 = .ok (.iload 6, 2) := by decide +kernel
theorem dX6_chanceOf_20 : decode cX6_chanceOf 20 = .ok (.putfield 189, 3) := by decide +kernel
theorem dX6_chanceOf_23 : decode cX6_chanceOf 23 = .ok (.aload_n 0, 1) := by decide +kernel
theorem dX6_chanceOf_24 : decode cX6_chanceOf 24 = .ok (.invokevirtual 219, 3) := by decide +kernel
theorem dX6_chanceOf_27 : decode cX6_chanceOf 27 = .ok (.aload_n 0, 1) := by decide +kernel
theorem dX6_chanceOf_28 : decode cX6_chanceOf 28 = .ok (.getfield 40, 3) := by decide +kernel
theorem dX6_chanceOf_31 : decode cX6_chanceOf 31 = .ok (.iload_n 2, 1) := by decide +kernel
theorem dX6_chanceOf_32 : decode cX6_chanceOf 32 = .ok (.iaload, 1) := by decide +kernel
theorem dX6_chanceOf_33 : decode cX6_chanceOf 33 = .ok (.iconst 3, 1) := by decide +kernel
theorem dX6_chanceOf_34 : decode cX6_chanceOf 34 = .ok (.if_icmp .ne 7, 3) := by decide +kernel
theorem dX6_chanceOf_37 : decode cX6_chanceOf 37 = .ok (.lconst 1, 1) := by decide +kernel
theorem dX6_chanceOf_38 : decode cX6_chanceOf 38 = .ok (.goto 4, 3) := by decide +kernel
theorem dX6_chanceOf_41 : decode cX6_chanceOf 41 = .ok (.lconst 0, 1) := by decide +kernel
theorem dX6_chanceOf_42 : decode cX6_chanceOf 42 = .ok (.lstore 7, 2) := by decide +kernel
theorem dX6_chanceOf_44 : decode cX6_chanceOf 44 = .ok (.iconst 0, 1) := by decide +kernel
theorem dX6_chanceOf_45 : decode cX6_chanceOf 45 = .ok (.istore 9, 2) := by decide +kernel
theorem dX6_chanceOf_47 : decode cX6_chanceOf 47 = .ok (.iload 9, 2) := by decide +kernel
theorem dX6_chanceOf_49 : decode cX6_chanceOf 49 = .ok (.aload_n 0, 1) := by decide +kernel
theorem dX6_chanceOf_50 : decode cX6_chanceOf 50 = .ok (.getfield 184, 3) := by decide +kernel
theorem dX6_chanceOf_53 : decode cX6_chanceOf 53 = .ok (.if_icmp .ge 34, 3) := by decide +kernel
theorem dX6_chanceOf_56 : decode cX6_chanceOf 56 = .ok (.lload 7, 2) := by decide +kernel
theorem dX6_chanceOf_58 : decode cX6_chanceOf 58 = .ok (.iload 6, 2) := by decide +kernel
theorem dX6_chanceOf_60 : decode cX6_chanceOf 60 = .ok (.iload 9, 2) := by decide +kernel
theorem dX6_chanceOf_62 : decode cX6_chanceOf 62 = .ok (.invokestatic 192, 3) := by decide +kernel
theorem dX6_chanceOf_65 : decode cX6_chanceOf 65 = .ok (.ifCond .eq 11, 3) := by decide +kernel
theorem dX6_chanceOf_68 : decode cX6_chanceOf 68 = .ok (.bipush 16, 2) := by decide +kernel
theorem dX6_chanceOf_70 : decode cX6_chanceOf 70 = .ok (.iload_n 1, 1) := by decide +kernel
theorem dX6_chanceOf_71 : decode cX6_chanceOf 71 = .ok (.isub, 1) := by decide +kernel
theorem dX6_chanceOf_72 : decode cX6_chanceOf 72 = .ok (.i2l, 1) := by decide +kernel
theorem dX6_chanceOf_73 : decode cX6_chanceOf 73 = .ok (.goto 5, 3) := by decide +kernel
theorem dX6_chanceOf_76 : decode cX6_chanceOf 76 = .ok (.iload_n 1, 1) := by decide +kernel
theorem dX6_chanceOf_77 : decode cX6_chanceOf 77 = .ok (.i2l, 1) := by decide +kernel
theorem dX6_chanceOf_78 : decode cX6_chanceOf 78 = .ok (.lmul, 1) := by decide +kernel
theorem dX6_chanceOf_79 : decode cX6_chanceOf 79 = .ok (.lstore 7, 2) := by decide +kernel
theorem dX6_chanceOf_81 : decode cX6_chanceOf 81 = .ok (.iinc 9 1, 3) := by decide +kernel
theorem dX6_chanceOf_84 : decode cX6_chanceOf 84 = .ok (.goto (-37), 3) := by decide +kernel
theorem dX6_chanceOf_87 : decode cX6_chanceOf 87 = .ok (.lload 4, 2) := by decide +kernel
theorem dX6_chanceOf_89 : decode cX6_chanceOf 89 = .ok (.lload 7, 2) := by decide +kernel
theorem dX6_chanceOf_91 : decode cX6_chanceOf 91 = .ok (.ladd, 1) := by decide +kernel
theorem dX6_chanceOf_92 : decode cX6_chanceOf 92 = .ok (.lstore 4, 2) := by decide +kernel
theorem dX6_chanceOf_94 : decode cX6_chanceOf 94 = .ok (.iinc 6 1, 3) := by decide +kernel
theorem dX6_chanceOf_97 : decode cX6_chanceOf 97 = .ok (.goto (-91), 3) := by decide +kernel
theorem dX6_chanceOf_100 : decode cX6_chanceOf 100 = .ok (.aload_n 0, 1) := by decide +kernel
theorem dX6_chanceOf_101 : decode cX6_chanceOf 101 = .ok (.iconst 0, 1) := by decide +kernel
theorem dX6_chanceOf_102 : decode cX6_chanceOf 102 = .ok (.putfield 189, 3) := by decide +kernel
theorem dX6_chanceOf_105 : decode cX6_chanceOf 105 = .ok (.lload 4, 2) := by decide +kernel
theorem dX6_chanceOf_107 : decode cX6_chanceOf 107 = .ok (.lconst 1, 1) := by decide +kernel
theorem dX6_chanceOf_108 : decode cX6_chanceOf 108 = .ok (.iconst 4, 1) := by decide +kernel
theorem dX6_chanceOf_109 : decode cX6_chanceOf 109 = .ok (.aload_n 0, 1) := by decide +kernel
theorem dX6_chanceOf_110 : decode cX6_chanceOf 110 = .ok (.getfield 184, 3) := by decide +kernel
theorem dX6_chanceOf_113 : decode cX6_chanceOf 113 = .ok (.imul, 1) := by decide +kernel
theorem dX6_chanceOf_114 : decode cX6_chanceOf 114 = .ok (.lshl, 1) := by decide +kernel
theorem dX6_chanceOf_115 : decode cX6_chanceOf 115 = .ok (.iload_n 3, 1) := by decide +kernel
theorem dX6_chanceOf_116 : decode cX6_chanceOf 116 = .ok (.invokestatic 295, 3) := by decide +kernel
theorem dX6_chanceOf_119 : decode cX6_chanceOf 119 = .ok (.lreturn, 1) := by decide +kernel
theorem dX6_chance_0 : decode cX6_chance 0 = .ok (.aload_n 0, 1) := by decide +kernel
theorem dX6_chance_1 : decode cX6_chance 1 = .ok (.invokevirtual 222, 3) := by decide +kernel
theorem dX6_chance_4 : decode cX6_chance 4 = .ok (.iload_n 1, 1) := by decide +kernel
theorem dX6_chance_5 : decode cX6_chance 5 = .ok (.i2l, 1) := by decide +kernel
theorem dX6_chance_6 : decode cX6_chance 6 = .ok (.lconst 0, 1) := by decide +kernel
theorem dX6_chance_7 : decode cX6_chance 7 = .ok (.ldc2_w 299, 3) := by decide +kernel
theorem dX6_chance_10 : decode cX6_chance 10 = .ok (.invokestatic 94, 3) := by decide +kernel
theorem dX6_chance_13 : decode cX6_chance 13 = .ok (.ifCond .eq 28, 3) := by decide +kernel
theorem dX6_chance_16 : decode cX6_chance 16 = .ok (.aload_n 0, 1) := by decide +kernel
theorem dX6_chance_17 : decode cX6_chance 17 = .ok (.iload_n 2, 1) := by decide +kernel
theorem dX6_chance_18 : decode cX6_chance 18 = .ok (.invokevirtual 178, 3) := by decide +kernel
theorem dX6_chance_21 : decode cX6_chance 21 = .ok (.ifCond .eq 20, 3) := by decide +kernel
theorem dX6_chance_24 : decode cX6_chance 24 = .ok (.iload_n 3, 1) := by decide +kernel
theorem dX6_chance_25 : decode cX6_chance 25 = .ok (.invokestatic 175, 3) := by decide +kernel
theorem dX6_chance_28 : decode cX6_chance 28 = .ok (.ifCond .eq 13, 3) := by decide +kernel
theorem dX6_chance_31 : decode cX6_chance 31 = .ok (.aload_n 0, 1) := by decide +kernel
theorem dX6_chance_32 : decode cX6_chance 32 = .ok (.iload_n 1, 1) := by decide +kernel
theorem dX6_chance_33 : decode cX6_chance 33 = .ok (.iload_n 2, 1) := by decide +kernel
theorem dX6_chance_34 : decode cX6_chance 34 = .ok (.iload_n 3, 1) := by decide +kernel
theorem dX6_chance_35 : decode cX6_chance 35 = .ok (.invokevirtual 301, 3) := by decide +kernel
theorem dX6_chance_38 : decode cX6_chance 38 = .ok (.goto 8, 3) := by decide +kernel
theorem dX6_chance_41 : decode cX6_chance 41 = .ok (.bipush (-2), 2) := by decide +kernel
theorem dX6_chance_43 : decode cX6_chance 43 = .ok (.invokestatic 305, 3) := by decide +kernel
theorem dX6_chance_46 : decode cX6_chance 46 = .ok (.lreturn, 1) := by decide +kernel
theorem dX6_lot_0 : decode cX6_lot 0 = .ok (.aload_n 0, 1) := by decide +kernel
theorem dX6_lot_1 : decode cX6_lot 1 = .ok (.ldc_w 309, 3) := by decide +kernel
theorem dX6_lot_4 : decode cX6_lot 4 = .ok (.aload_n 0, 1) := by decide +kernel
theorem dX6_lot_5 : decode cX6_lot 5 = .ok (.getfield 310, 3) := by decide +kernel
theorem dX6_lot_8 : decode cX6_lot 8 = .ok (.imul, 1) := by decide +kernel
theorem dX6_lot_9 : decode cX6_lot 9 = .ok (.sipush 12345, 3) := by decide +kernel
theorem dX6_lot_12 : decode cX6_lot 12 = .ok (.iadd, 1) := by decide +kernel
theorem dX6_lot_13 : decode cX6_lot 13 = .ok (.putfield 310, 3) := by decide +kernel
theorem dX6_lot_16 : decode cX6_lot 16 = .ok (.aload_n 0, 1) := by decide +kernel
theorem dX6_lot_17 : decode cX6_lot 17 = .ok (.getfield 310, 3) := by decide +kernel
theorem dX6_lot_20 : decode cX6_lot 20 = .ok (.bipush 16, 2) := by decide +kernel
theorem dX6_lot_22 : decode cX6_lot 22 = .ok (.iushr, 1) := by decide +kernel
theorem dX6_lot_23 : decode cX6_lot 23 = .ok (.iload_n 1, 1) := by decide +kernel
theorem dX6_lot_24 : decode cX6_lot 24 = .ok (.irem, 1) := by decide +kernel
theorem dX6_lot_25 : decode cX6_lot 25 = .ok (.ireturn, 1) := by decide +kernel
theorem dX6_allGold_0 : decode cX6_allGold 0 = .ok (.iconst 0, 1) := by decide +kernel
theorem dX6_allGold_1 : decode cX6_allGold 1 = .ok (.istore_n 1, 1) := by decide +kernel
theorem dX6_allGold_2 : decode cX6_allGold 2 = .ok (.iconst 0, 1) := by decide +kernel
theorem dX6_allGold_3 : decode cX6_allGold 3 = .ok (.istore_n 2, 1) := by decide +kernel
theorem dX6_allGold_4 : decode cX6_allGold 4 = .ok (.iload_n 2, 1) := by decide +kernel
theorem dX6_allGold_5 : decode cX6_allGold 5 = .ok (.aload_n 0, 1) := by decide +kernel
theorem dX6_allGold_6 : decode cX6_allGold 6 = .ok (.getfield 131, 3) := by decide +kernel
theorem dX6_allGold_9 : decode cX6_allGold 9 = .ok (.if_icmp .ge 18, 3) := by decide +kernel
theorem dX6_allGold_12 : decode cX6_allGold 12 = .ok (.iload_n 1, 1) := by decide +kernel
theorem dX6_allGold_13 : decode cX6_allGold 13 = .ok (.aload_n 0, 1) := by decide +kernel
theorem dX6_allGold_14 : decode cX6_allGold 14 = .ok (.getfield 52, 3) := by decide +kernel
theorem dX6_allGold_17 : decode cX6_allGold 17 = .ok (.iload_n 2, 1) := by decide +kernel
theorem dX6_allGold_18 : decode cX6_allGold 18 = .ok (.iaload, 1) := by decide +kernel
theorem dX6_allGold_19 : decode cX6_allGold 19 = .ok (.iadd, 1) := by decide +kernel
theorem dX6_allGold_20 : decode cX6_allGold 20 = .ok (.istore_n 1, 1) := by decide +kernel
theorem dX6_allGold_21 : decode cX6_allGold 21 = .ok (.iinc 2 1, 3) := by decide +kernel
theorem dX6_allGold_24 : decode cX6_allGold 24 = .ok (.goto (-20), 3) := by decide +kernel
theorem dX6_allGold_27 : decode cX6_allGold 27 = .ok (.iload_n 1, 1) := by decide +kernel
theorem dX6_allGold_28 : decode cX6_allGold 28 = .ok (.ireturn, 1) := by decide +kernel
theorem dX6_yearsOf_0 : decode cX6_yearsOf 0 = .ok (.aload_n 0, 1) := by decide +kernel
theorem dX6_yearsOf_1 : decode cX6_yearsOf 1 = .ok (.iload_n 1, 1) := by decide +kernel
theorem dX6_yearsOf_2 : decode cX6_yearsOf 2 = .ok (.putfield 310, 3) := by decide +kernel
theorem dX6_yearsOf_5 : decode cX6_yearsOf 5 = .ok (.iconst 0, 1) := by decide +kernel
theorem dX6_yearsOf_6 : decode cX6_yearsOf 6 = .ok (.istore 4, 2) := by decide +kernel
theorem dX6_yearsOf_8 : decode cX6_yearsOf 8 = .ok (.iload 4, 2) := by decide +kernel
theorem dX6_yearsOf_10 : decode cX6_yearsOf 10 = .ok (.bipush 24, 2) := by decide +kernel
theorem dX6_yearsOf_12 : decode cX6_yearsOf 12 = .ok (.if_icmp .ge 32, 3) := by decide +kernel
theorem dX6_yearsOf_15 : decode cX6_yearsOf 15 = .ok (.aload_n 0, 1) := by decide +kernel
theorem dX6_yearsOf_16 : decode cX6_yearsOf 16 = .ok (.getfield 34, 3) := by decide +kernel
theorem dX6_yearsOf_19 : decode cX6_yearsOf 19 = .ok (.iload 4, 2) := by decide +kernel
theorem dX6_yearsOf_21 : decode cX6_yearsOf 21 = .ok (.iload 4, 2) := by decide +kernel
theorem dX6_yearsOf_23 : decode cX6_yearsOf 23 = .ok (.iload_n 2, 1) := by decide +kernel
theorem dX6_yearsOf_24 : decode cX6_yearsOf 24 = .ok (.if_icmp .ge 12, 3) := by decide +kernel
theorem dX6_yearsOf_27 : decode cX6_yearsOf 27 = .ok (.aload_n 0, 1) := by decide +kernel
theorem dX6_yearsOf_28 : decode cX6_yearsOf 28 = .ok (.bipush 10, 2) := by decide +kernel
theorem dX6_yearsOf_30 : decode cX6_yearsOf 30 = .ok (.invokevirtual 313, 3) := by decide +kernel
theorem dX6_yearsOf_33 : decode cX6_yearsOf 33 = .ok (.goto 4, 3) := by decide +kernel
theorem dX6_yearsOf_36 : decode cX6_yearsOf 36 = .ok (.iconst 3, 1) := by decide +kernel
theorem dX6_yearsOf_37 : decode cX6_yearsOf 37 = .ok (.iastore, 1) := by decide +kernel
theorem dX6_yearsOf_38 : decode cX6_yearsOf 38 = .ok (.iinc 4 1, 3) := by decide +kernel
theorem dX6_yearsOf_41 : decode cX6_yearsOf 41 = .ok (.goto (-33), 3) := by decide +kernel
theorem dX6_yearsOf_44 : decode cX6_yearsOf 44 = .ok (.aload_n 0, 1) := by decide +kernel
theorem dX6_yearsOf_45 : decode cX6_yearsOf 45 = .ok (.invokevirtual 219, 3) := by decide +kernel
theorem dX6_yearsOf_48 : decode cX6_yearsOf 48 = .ok (.aload_n 0, 1) := by decide +kernel
theorem dX6_yearsOf_49 : decode cX6_yearsOf 49 = .ok (.invokevirtual 164, 3) := by decide +kernel
theorem dX6_yearsOf_52 : decode cX6_yearsOf 52 = .ok (.pop, 1) := by decide +kernel
theorem dX6_yearsOf_53 : decode cX6_yearsOf 53 = .ok (.iload_n 3, 1) := by decide +kernel
theorem dX6_yearsOf_54 : decode cX6_yearsOf 54 = .ok (.ifCond .ne 13, 3) := by decide +kernel
theorem dX6_yearsOf_57 : decode cX6_yearsOf 57 = .ok (.aload_n 0, 1) := by decide +kernel
theorem dX6_yearsOf_58 : decode cX6_yearsOf 58 = .ok (.invokevirtual 240, 3) := by decide +kernel
theorem dX6_yearsOf_61 : decode cX6_yearsOf 61 = .ok (.invokestatic 249, 3) := by decide +kernel
theorem dX6_yearsOf_64 : decode cX6_yearsOf 64 = .ok (.goto 7, 3) := by decide +kernel
theorem dX6_yearsOf_67 : decode cX6_yearsOf 67 = .ok (.aload_n 0, 1) := by decide +kernel
theorem dX6_yearsOf_68 : decode cX6_yearsOf 68 = .ok (.invokevirtual 316, 3) := by decide +kernel
theorem dX6_yearsOf_71 : decode cX6_yearsOf 71 = .ok (.ireturn, 1) := by decide +kernel
theorem dX6_years_0 : decode cX6_years 0 = .ok (.aload_n 0, 1) := by decide +kernel
theorem dX6_years_1 : decode cX6_years 1 = .ok (.invokevirtual 222, 3) := by decide +kernel
theorem dX6_years_4 : decode cX6_years 4 = .ok (.iload_n 2, 1) := by decide +kernel
theorem dX6_years_5 : decode cX6_years 5 = .ok (.i2l, 1) := by decide +kernel
theorem dX6_years_6 : decode cX6_years 6 = .ok (.lconst 0, 1) := by decide +kernel
theorem dX6_years_7 : decode cX6_years 7 = .ok (.ldc2_w 319, 3) := by decide +kernel
theorem dX6_years_10 : decode cX6_years 10 = .ok (.invokestatic 94, 3) := by decide +kernel
theorem dX6_years_13 : decode cX6_years 13 = .ok (.ifCond .eq 20, 3) := by decide +kernel
theorem dX6_years_16 : decode cX6_years 16 = .ok (.iload_n 3, 1) := by decide +kernel
theorem dX6_years_17 : decode cX6_years 17 = .ok (.invokestatic 175, 3) := by decide +kernel
theorem dX6_years_20 : decode cX6_years 20 = .ok (.ifCond .eq 13, 3) := by decide +kernel
theorem dX6_years_23 : decode cX6_years 23 = .ok (.aload_n 0, 1) := by decide +kernel
theorem dX6_years_24 : decode cX6_years 24 = .ok (.iload_n 1, 1) := by decide +kernel
theorem dX6_years_25 : decode cX6_years 25 = .ok (.iload_n 2, 1) := by decide +kernel
theorem dX6_years_26 : decode cX6_years 26 = .ok (.iload_n 3, 1) := by decide +kernel
theorem dX6_years_27 : decode cX6_years 27 = .ok (.invokevirtual 321, 3) := by decide +kernel
theorem dX6_years_30 : decode cX6_years 30 = .ok (.goto 5, 3) := by decide +kernel
theorem dX6_years_33 : decode cX6_years 33 = .ok (.bipush (-2), 2) := by decide +kernel
theorem dX6_years_35 : decode cX6_years 35 = .ok (.ireturn, 1) := by decide +kernel
theorem dX6_write_0 : decode cX6_write 0 = .ok (.aload_n 0, 1) := by decide +kernel
theorem dX6_write_1 : decode cX6_write 1 = .ok (.invokevirtual 222, 3) := by decide +kernel
theorem dX6_write_4 : decode cX6_write 4 = .ok (.aload_n 0, 1) := by decide +kernel
theorem dX6_write_5 : decode cX6_write 5 = .ok (.iload_n 1, 1) := by decide +kernel
theorem dX6_write_6 : decode cX6_write 6 = .ok (.invokevirtual 172, 3) := by decide +kernel
theorem dX6_write_9 : decode cX6_write 9 = .ok (.ifCond .eq 10, 3) := by decide +kernel
theorem dX6_write_12 : decode cX6_write 12 = .ok (.iload_n 2, 1) := by decide +kernel
theorem dX6_write_13 : decode cX6_write 13 = .ok (.invokestatic 103, 3) := by decide +kernel
theorem dX6_write_16 : decode cX6_write 16 = .ok (.ifCond .ne 6, 3) := by decide +kernel
theorem dX6_write_19 : decode cX6_write 19 = .ok (.bipush (-2), 2) := by decide +kernel
theorem dX6_write_21 : decode cX6_write 21 = .ok (.ireturn, 1) := by decide +kernel
theorem dX6_write_22 : decode cX6_write 22 = .ok (.aload_n 0, 1) := by decide +kernel
theorem dX6_write_23 : decode cX6_write 23 = .ok (.getfield 7, 3) := by decide +kernel
theorem dX6_write_26 : decode cX6_write 26 = .ok (.iload_n 2, 1) := by decide +kernel
theorem dX6_write_27 : decode cX6_write 27 = .ok (.iaload, 1) := by decide +kernel
theorem dX6_write_28 : decode cX6_write 28 = .ok (.ifCond .ge 9, 3) := by decide +kernel
theorem dX6_write_31 : decode cX6_write 31 = .ok (.aload_n 0, 1) := by decide +kernel
theorem dX6_write_32 : decode cX6_write 32 = .ok (.iconst 1, 1) := by decide +kernel
theorem dX6_write_33 : decode cX6_write 33 = .ok (.invokevirtual 109, 3) := by decide +kernel
theorem dX6_write_36 : decode cX6_write 36 = .ok (.ireturn, 1) := by decide +kernel
theorem dX6_write_37 : decode cX6_write 37 = .ok (.aload_n 0, 1) := by decide +kernel
theorem dX6_write_38 : decode cX6_write 38 = .ok (.getfield 13, 3) := by decide +kernel
theorem dX6_write_41 : decode cX6_write 41 = .ok (.iload_n 2, 1) := by decide +kernel
theorem dX6_write_42 : decode cX6_write 42 = .ok (.iaload, 1) := by decide +kernel
theorem dX6_write_43 : decode cX6_write 43 = .ok (.bipush 24, 2) := by decide +kernel
theorem dX6_write_45 : decode cX6_write 45 = .ok (.invokestatic 202, 3) := by decide +kernel
theorem dX6_write_48 : decode cX6_write 48 = .ok (.istore_n 3, 1) := by decide +kernel
theorem dX6_write_49 : decode cX6_write 49 = .ok (.iconst 0, 1) := by decide +kernel
theorem dX6_write_50 : decode cX6_write 50 = .ok (.istore 4, 2) := by decide +kernel
theorem dX6_write_52 : decode cX6_write 52 = .ok (.iload 4, 2) := by decide +kernel
theorem dX6_write_54 : decode cX6_write 54 = .ok (.iload_n 3, 1) := by decide +kernel
theorem dX6_write_55 : decode cX6_write 55 = .ok (.if_icmp .ge 42, 3) := by decide +kernel
theorem dX6_write_58 : decode cX6_write 58 = .ok (.aload_n 0, 1) := by decide +kernel
theorem dX6_write_59 : decode cX6_write 59 = .ok (.getfield 16, 3) := by decide +kernel
theorem dX6_write_62 : decode cX6_write 62 = .ok (.bipush 60, 2) := by decide +kernel
theorem dX6_write_64 : decode cX6_write 64 = .ok (.iload_n 2, 1) := by decide +kernel
theorem dX6_write_65 : decode cX6_write 65 = .ok (.imul, 1) := by decide +kernel
theorem dX6_write_66 : decode cX6_write 66 = .ok (.iload 4, 2) := by decide +kernel
theorem dX6_write_68 : decode cX6_write 68 = .ok (.iadd, 1) := by decide +kernel
theorem dX6_write_69 : decode cX6_write 69 = .ok (.aload_n 0, 1) := by decide +kernel
theorem dX6_write_70 : decode cX6_write 70 = .ok (.getfield 7, 3) := by decide +kernel
theorem dX6_write_73 : decode cX6_write 73 = .ok (.iload_n 2, 1) := by decide +kernel
theorem dX6_write_74 : decode cX6_write 74 = .ok (.iaload, 1) := by decide +kernel
theorem dX6_write_75 : decode cX6_write 75 = .ok (.aload_n 0, 1) := by decide +kernel
theorem dX6_write_76 : decode cX6_write 76 = .ok (.getfield 70, 3) := by decide +kernel
theorem dX6_write_79 : decode cX6_write 79 = .ok (.bipush 8, 2) := by decide +kernel
theorem dX6_write_81 : decode cX6_write 81 = .ok (.iload 4, 2) := by decide +kernel
theorem dX6_write_83 : decode cX6_write 83 = .ok (.imul, 1) := by decide +kernel
theorem dX6_write_84 : decode cX6_write 84 = .ok (.iload_n 1, 1) := by decide +kernel
theorem dX6_write_85 : decode cX6_write 85 = .ok (.iadd, 1) := by decide +kernel
theorem dX6_write_86 : decode cX6_write 86 = .ok (.iaload, 1) := by decide +kernel
theorem dX6_write_87 : decode cX6_write 87 = .ok (.invokestatic 117, 3) := by decide +kernel
theorem dX6_write_90 : decode cX6_write 90 = .ok (.iastore, 1) := by decide +kernel
theorem dX6_write_91 : decode cX6_write 91 = .ok (.iinc 4 1, 3) := by decide +kernel
theorem dX6_write_94 : decode cX6_write 94 = .ok (.goto (-42), 3) := by decide +kernel
theorem dX6_write_97 : decode cX6_write 97 = .ok (.iload_n 3, 1) := by decide +kernel
theorem dX6_write_98 : decode cX6_write 98 = .ok (.ireturn, 1) := by decide +kernel
theorem dX6_count_0 : decode cX6_count 0 = .ok (.aload_n 0, 1) := by decide +kernel
theorem dX6_count_1 : decode cX6_count 1 = .ok (.invokevirtual 222, 3) := by decide +kernel
theorem dX6_count_4 : decode cX6_count 4 = .ok (.iload_n 1, 1) := by decide +kernel
theorem dX6_count_5 : decode cX6_count 5 = .ok (.tableswitch 90 0 8 #[51, 56, 61, 66, 66, 66, 75, 80, 85], 51) := by decide +kernel
theorem dX6_count_56 : decode cX6_count 56 = .ok (.aload_n 0, 1) := by decide +kernel
theorem dX6_count_57 : decode cX6_count 57 = .ok (.getfield 131, 3) := by decide +kernel
theorem dX6_count_60 : decode cX6_count 60 = .ok (.ireturn, 1) := by decide +kernel
theorem dX6_count_61 : decode cX6_count 61 = .ok (.aload_n 0, 1) := by decide +kernel
theorem dX6_count_62 : decode cX6_count 62 = .ok (.getfield 145, 3) := by decide +kernel
theorem dX6_count_65 : decode cX6_count 65 = .ok (.ireturn, 1) := by decide +kernel
theorem dX6_count_66 : decode cX6_count 66 = .ok (.aload_n 0, 1) := by decide +kernel
theorem dX6_count_67 : decode cX6_count 67 = .ok (.getfield 151, 3) := by decide +kernel
theorem dX6_count_70 : decode cX6_count 70 = .ok (.ireturn, 1) := by decide +kernel
theorem dX6_count_71 : decode cX6_count 71 = .ok (.aload_n 0, 1) := by decide +kernel
theorem dX6_count_72 : decode cX6_count 72 = .ok (.getfield 25, 3) := by decide +kernel
theorem dX6_count_75 : decode cX6_count 75 = .ok (.iload_n 1, 1) := by decide +kernel
theorem dX6_count_76 : decode cX6_count 76 = .ok (.iconst 3, 1) := by decide +kernel
theorem dX6_count_77 : decode cX6_count 77 = .ok (.isub, 1) := by decide +kernel
theorem dX6_count_78 : decode cX6_count 78 = .ok (.iaload, 1) := by decide +kernel
theorem dX6_count_79 : decode cX6_count 79 = .ok (.ireturn, 1) := by decide +kernel
theorem dX6_count_80 : decode cX6_count 80 = .ok (.aload_n 0, 1) := by decide +kernel
theorem dX6_count_81 : decode cX6_count 81 = .ok (.getfield 184, 3) := by decide +kernel
theorem dX6_count_84 : decode cX6_count 84 = .ok (.ireturn, 1) := by decide +kernel
theorem dX6_count_85 : decode cX6_count 85 = .ok (.aload_n 0, 1) := by decide +kernel
theorem dX6_count_86 : decode cX6_count 86 = .ok (.getfield 270, 3) := by decide +kernel
theorem dX6_count_89 : decode cX6_count 89 = .ok (.ireturn, 1) := by decide +kernel
theorem dX6_count_90 : decode cX6_count 90 = .ok (.aload_n 0, 1) := by decide +kernel
theorem dX6_count_91 : decode cX6_count 91 = .ok (.getfield 98, 3) := by decide +kernel
theorem dX6_count_94 : decode cX6_count 94 = .ok (.ireturn, 1) := by decide +kernel
theorem dX6_count_95 : decode cX6_count 95 = .ok (.bipush (-2), 2) := by decide +kernel
theorem dX6_count_97 : decode cX6_count 97 = .ok (.ireturn, 1) := by decide +kernel
theorem dX6_tellsStand_0 : decode cX6_tellsStand 0 = .ok (.lload_n 1, 1) := by decide +kernel
theorem dX6_tellsStand_1 : decode cX6_tellsStand 1 = .ok (.lstore 5, 2) := by decide +kernel
theorem dX6_tellsStand_3 : decode cX6_tellsStand 3 = .ok (.iconst 0, 1) := by decide +kernel
theorem dX6_tellsStand_4 : decode cX6_tellsStand 4 = .ok (.istore 7, 2) := by decide +kernel
theorem dX6_tellsStand_6 : decode cX6_tellsStand 6 = .ok (.iload 7, 2) := by decide +kernel
theorem dX6_tellsStand_8 : decode cX6_tellsStand 8 = .ok (.iconst 3, 1) := by decide +kernel
theorem dX6_tellsStand_9 : decode cX6_tellsStand 9 = .ok (.if_icmp .ge 28, 3) := by decide +kernel
theorem dX6_tellsStand_12 : decode cX6_tellsStand 12 = .ok (.ldc2_w 324, 3) := by decide +kernel
theorem dX6_tellsStand_15 : decode cX6_tellsStand 15 = .ok (.lload 5, 2) := by decide +kernel
theorem dX6_tellsStand_17 : decode cX6_tellsStand 17 = .ok (.lmul, 1) := by decide +kernel
theorem dX6_tellsStand_18 : decode cX6_tellsStand 18 = .ok (.aload_n 0, 1) := by decide +kernel
theorem dX6_tellsStand_19 : decode cX6_tellsStand 19 = .ok (.iload_n 3, 1) := by decide +kernel
theorem dX6_tellsStand_20 : decode cX6_tellsStand 20 = .ok (.iload 4, 2) := by decide +kernel
theorem dX6_tellsStand_22 : decode cX6_tellsStand 22 = .ok (.iload 7, 2) := by decide +kernel
theorem dX6_tellsStand_24 : decode cX6_tellsStand 24 = .ok (.invokevirtual 225, 3) := by decide +kernel
theorem dX6_tellsStand_27 : decode cX6_tellsStand 27 = .ok (.i2l, 1) := by decide +kernel
theorem dX6_tellsStand_28 : decode cX6_tellsStand 28 = .ok (.ladd, 1) := by decide +kernel
theorem dX6_tellsStand_29 : decode cX6_tellsStand 29 = .ok (.lstore 5, 2) := by decide +kernel
theorem dX6_tellsStand_31 : decode cX6_tellsStand 31 = .ok (.iinc 7 1, 3) := by decide +kernel
theorem dX6_tellsStand_34 : decode cX6_tellsStand 34 = .ok (.goto (-28), 3) := by decide +kernel
theorem dX6_tellsStand_37 : decode cX6_tellsStand 37 = .ok (.lload 5, 2) := by decide +kernel
theorem dX6_tellsStand_39 : decode cX6_tellsStand 39 = .ok (.lreturn, 1) := by decide +kernel
theorem dX6_tellsQuarrel_0 : decode cX6_tellsQuarrel 0 = .ok (.aload_n 0, 1) := by decide +kernel
theorem dX6_tellsQuarrel_1 : decode cX6_tellsQuarrel 1 = .ok (.invokevirtual 219, 3) := by decide +kernel
theorem dX6_tellsQuarrel_4 : decode cX6_tellsQuarrel 4 = .ok (.lload_n 1, 1) := by decide +kernel
theorem dX6_tellsQuarrel_5 : decode cX6_tellsQuarrel 5 = .ok (.lstore 4, 2) := by decide +kernel
theorem dX6_tellsQuarrel_7 : decode cX6_tellsQuarrel 7 = .ok (.iconst 0, 1) := by decide +kernel
theorem dX6_tellsQuarrel_8 : decode cX6_tellsQuarrel 8 = .ok (.istore 6, 2) := by decide +kernel
theorem dX6_tellsQuarrel_10 : decode cX6_tellsQuarrel 10 = .ok (.iload 6, 2) := by decide +kernel
theorem dX6_tellsQuarrel_12 : decode cX6_tellsQuarrel 12 = .ok (.iconst 3, 1) := by decide +kernel
theorem dX6_tellsQuarrel_13 : decode cX6_tellsQuarrel 13 = .ok (.if_icmp .ge 30, 3) := by decide +kernel
theorem dX6_tellsQuarrel_16 : decode cX6_tellsQuarrel 16 = .ok (.ldc2_w 324, 3) := by decide +kernel
theorem dX6_tellsQuarrel_19 : decode cX6_tellsQuarrel 19 = .ok (.lload 4, 2) := by decide +kernel
theorem dX6_tellsQuarrel_21 : decode cX6_tellsQuarrel 21 = .ok (.lmul, 1) := by decide +kernel
theorem dX6_tellsQuarrel_22 : decode cX6_tellsQuarrel 22 = .ok (.aload_n 0, 1) := by decide +kernel
theorem dX6_tellsQuarrel_23 : decode cX6_tellsQuarrel 23 = .ok (.getfield 31, 3) := by decide +kernel
theorem dX6_tellsQuarrel_26 : decode cX6_tellsQuarrel 26 = .ok (.iconst 3, 1) := by decide +kernel
theorem dX6_tellsQuarrel_27 : decode cX6_tellsQuarrel 27 = .ok (.iload_n 3, 1) := by decide +kernel
theorem dX6_tellsQuarrel_28 : decode cX6_tellsQuarrel 28 = .ok (.imul, 1) := by decide +kernel
theorem dX6_tellsQuarrel_29 : decode cX6_tellsQuarrel 29 = .ok (.iload 6, 2) := by decide +kernel
theorem dX6_tellsQuarrel_31 : decode cX6_tellsQuarrel 31 = .ok (.iadd, 1) := by decide +kernel
theorem dX6_tellsQuarrel_32 : decode cX6_tellsQuarrel 32 = .ok (.iaload, 1) := by decide +kernel
theorem dX6_tellsQuarrel_33 : decode cX6_tellsQuarrel 33 = .ok (.i2l, 1) := by decide +kernel
theorem dX6_tellsQuarrel_34 : decode cX6_tellsQuarrel 34 = .ok (.ladd, 1) := by decide +kernel
theorem dX6_tellsQuarrel_35 : decode cX6_tellsQuarrel 35 = .ok (.lstore 4, 2) := by decide +kernel
theorem dX6_tellsQuarrel_37 : decode cX6_tellsQuarrel 37 = .ok (.iinc 6 1, 3) := by decide +kernel
theorem dX6_tellsQuarrel_40 : decode cX6_tellsQuarrel 40 = .ok (.goto (-30), 3) := by decide +kernel
theorem dX6_tellsQuarrel_43 : decode cX6_tellsQuarrel 43 = .ok (.aload_n 0, 1) := by decide +kernel
theorem dX6_tellsQuarrel_44 : decode cX6_tellsQuarrel 44 = .ok (.aload_n 0, 1) := by decide +kernel
theorem dX6_tellsQuarrel_45 : decode cX6_tellsQuarrel 45 = .ok (.aload_n 0, 1) := by decide +kernel
theorem dX6_tellsQuarrel_46 : decode cX6_tellsQuarrel 46 = .ok (.aload_n 0, 1) := by decide +kernel
theorem dX6_tellsQuarrel_47 : decode cX6_tellsQuarrel 47 = .ok (.lload 4, 2) := by decide +kernel
theorem dX6_tellsQuarrel_49 : decode cX6_tellsQuarrel 49 = .ok (.iconst 0, 1) := by decide +kernel
theorem dX6_tellsQuarrel_50 : decode cX6_tellsQuarrel 50 = .ok (.iload_n 3, 1) := by decide +kernel
theorem dX6_tellsQuarrel_51 : decode cX6_tellsQuarrel 51 = .ok (.invokevirtual 326, 3) := by decide +kernel
theorem dX6_tellsQuarrel_54 : decode cX6_tellsQuarrel 54 = .ok (.bipush 6, 2) := by decide +kernel
theorem dX6_tellsQuarrel_56 : decode cX6_tellsQuarrel 56 = .ok (.iload_n 3, 1) := by decide +kernel
theorem dX6_tellsQuarrel_57 : decode cX6_tellsQuarrel 57 = .ok (.invokevirtual 326, 3) := by decide +kernel
theorem dX6_tellsQuarrel_60 : decode cX6_tellsQuarrel 60 = .ok (.bipush 12, 2) := by decide +kernel
theorem dX6_tellsQuarrel_62 : decode cX6_tellsQuarrel 62 = .ok (.iload_n 3, 1) := by decide +kernel
theorem dX6_tellsQuarrel_63 : decode cX6_tellsQuarrel 63 = .ok (.invokevirtual 326, 3) := by decide +kernel
theorem dX6_tellsQuarrel_66 : decode cX6_tellsQuarrel 66 = .ok (.bipush 23, 2) := by decide +kernel
theorem dX6_tellsQuarrel_68 : decode cX6_tellsQuarrel 68 = .ok (.iload_n 3, 1) := by decide +kernel
theorem dX6_tellsQuarrel_69 : decode cX6_tellsQuarrel 69 = .ok (.invokevirtual 326, 3) := by decide +kernel
theorem dX6_tellsQuarrel_72 : decode cX6_tellsQuarrel 72 = .ok (.lstore 4, 2) := by decide +kernel
theorem dX6_tellsQuarrel_74 : decode cX6_tellsQuarrel 74 = .ok (.ldc2_w 324, 3) := by decide +kernel
theorem dX6_tellsQuarrel_77 : decode cX6_tellsQuarrel 77 = .ok (.lload 4, 2) := by decide +kernel
theorem dX6_tellsQuarrel_79 : decode cX6_tellsQuarrel 79 = .ok (.lmul, 1) := by decide +kernel
theorem dX6_tellsQuarrel_80 : decode cX6_tellsQuarrel 80 = .ok (.aload_n 0, 1) := by decide +kernel
theorem dX6_tellsQuarrel_81 : decode cX6_tellsQuarrel 81 = .ok (.getfield 49, 3) := by decide +kernel
theorem dX6_tellsQuarrel_84 : decode cX6_tellsQuarrel 84 = .ok (.iload_n 3, 1) := by decide +kernel
theorem dX6_tellsQuarrel_85 : decode cX6_tellsQuarrel 85 = .ok (.iaload, 1) := by decide +kernel
theorem dX6_tellsQuarrel_86 : decode cX6_tellsQuarrel 86 = .ok (.i2l, 1) := by decide +kernel
theorem dX6_tellsQuarrel_87 : decode cX6_tellsQuarrel 87 = .ok (.ladd, 1) := by decide +kernel
theorem dX6_tellsQuarrel_88 : decode cX6_tellsQuarrel 88 = .ok (.lstore 4, 2) := by decide +kernel
theorem dX6_tellsQuarrel_90 : decode cX6_tellsQuarrel 90 = .ok (.ldc2_w 324, 3) := by decide +kernel
theorem dX6_tellsQuarrel_93 : decode cX6_tellsQuarrel 93 = .ok (.lload 4, 2) := by decide +kernel
theorem dX6_tellsQuarrel_95 : decode cX6_tellsQuarrel 95 = .ok (.lmul, 1) := by decide +kernel
theorem dX6_tellsQuarrel_96 : decode cX6_tellsQuarrel 96 = .ok (.aload_n 0, 1) := by decide +kernel
theorem dX6_tellsQuarrel_97 : decode cX6_tellsQuarrel 97 = .ok (.iload_n 3, 1) := by decide +kernel
theorem dX6_tellsQuarrel_98 : decode cX6_tellsQuarrel 98 = .ok (.iconst 0, 1) := by decide +kernel
theorem dX6_tellsQuarrel_99 : decode cX6_tellsQuarrel 99 = .ok (.invokevirtual 246, 3) := by decide +kernel
theorem dX6_tellsQuarrel_102 : decode cX6_tellsQuarrel 102 = .ok (.i2l, 1) := by decide +kernel
theorem dX6_tellsQuarrel_103 : decode cX6_tellsQuarrel 103 = .ok (.ladd, 1) := by decide +kernel
theorem dX6_tellsQuarrel_104 : decode cX6_tellsQuarrel 104 = .ok (.lstore 4, 2) := by decide +kernel
theorem dX6_tellsQuarrel_106 : decode cX6_tellsQuarrel 106 = .ok (.ldc2_w 324, 3) := by decide +kernel
theorem dX6_tellsQuarrel_109 : decode cX6_tellsQuarrel 109 = .ok (.lload 4, 2) := by decide +kernel
theorem dX6_tellsQuarrel_111 : decode cX6_tellsQuarrel 111 = .ok (.lmul, 1) := by decide +kernel
theorem dX6_tellsQuarrel_112 : decode cX6_tellsQuarrel 112 = .ok (.aload_n 0, 1) := by decide +kernel
theorem dX6_tellsQuarrel_113 : decode cX6_tellsQuarrel 113 = .ok (.iload_n 3, 1) := by decide +kernel
theorem dX6_tellsQuarrel_114 : decode cX6_tellsQuarrel 114 = .ok (.iconst 1, 1) := by decide +kernel
theorem dX6_tellsQuarrel_115 : decode cX6_tellsQuarrel 115 = .ok (.invokevirtual 246, 3) := by decide +kernel
theorem dX6_tellsQuarrel_118 : decode cX6_tellsQuarrel 118 = .ok (.i2l, 1) := by decide +kernel
theorem dX6_tellsQuarrel_119 : decode cX6_tellsQuarrel 119 = .ok (.ladd, 1) := by decide +kernel
theorem dX6_tellsQuarrel_120 : decode cX6_tellsQuarrel 120 = .ok (.lstore 4, 2) := by decide +kernel
theorem dX6_tellsQuarrel_122 : decode cX6_tellsQuarrel 122 = .ok (.ldc2_w 324, 3) := by decide +kernel
theorem dX6_tellsQuarrel_125 : decode cX6_tellsQuarrel 125 = .ok (.lload 4, 2) := by decide +kernel
theorem dX6_tellsQuarrel_127 : decode cX6_tellsQuarrel 127 = .ok (.lmul, 1) := by decide +kernel
theorem dX6_tellsQuarrel_128 : decode cX6_tellsQuarrel 128 = .ok (.aload_n 0, 1) := by decide +kernel
theorem dX6_tellsQuarrel_129 : decode cX6_tellsQuarrel 129 = .ok (.iload_n 3, 1) := by decide +kernel
theorem dX6_tellsQuarrel_130 : decode cX6_tellsQuarrel 130 = .ok (.iconst 0, 1) := by decide +kernel
theorem dX6_tellsQuarrel_131 : decode cX6_tellsQuarrel 131 = .ok (.invokevirtual 252, 3) := by decide +kernel
theorem dX6_tellsQuarrel_134 : decode cX6_tellsQuarrel 134 = .ok (.i2l, 1) := by decide +kernel
theorem dX6_tellsQuarrel_135 : decode cX6_tellsQuarrel 135 = .ok (.ladd, 1) := by decide +kernel
theorem dX6_tellsQuarrel_136 : decode cX6_tellsQuarrel 136 = .ok (.lstore 4, 2) := by decide +kernel
theorem dX6_tellsQuarrel_138 : decode cX6_tellsQuarrel 138 = .ok (.ldc2_w 324, 3) := by decide +kernel
theorem dX6_tellsQuarrel_141 : decode cX6_tellsQuarrel 141 = .ok (.lload 4, 2) := by decide +kernel
theorem dX6_tellsQuarrel_143 : decode cX6_tellsQuarrel 143 = .ok (.lmul, 1) := by decide +kernel
theorem dX6_tellsQuarrel_144 : decode cX6_tellsQuarrel 144 = .ok (.aload_n 0, 1) := by decide +kernel
theorem dX6_tellsQuarrel_145 : decode cX6_tellsQuarrel 145 = .ok (.iload_n 3, 1) := by decide +kernel
theorem dX6_tellsQuarrel_146 : decode cX6_tellsQuarrel 146 = .ok (.iconst 1, 1) := by decide +kernel
theorem dX6_tellsQuarrel_147 : decode cX6_tellsQuarrel 147 = .ok (.invokevirtual 252, 3) := by decide +kernel
theorem dX6_tellsQuarrel_150 : decode cX6_tellsQuarrel 150 = .ok (.i2l, 1) := by decide +kernel
theorem dX6_tellsQuarrel_151 : decode cX6_tellsQuarrel 151 = .ok (.ladd, 1) := by decide +kernel
theorem dX6_tellsQuarrel_152 : decode cX6_tellsQuarrel 152 = .ok (.lstore 4, 2) := by decide +kernel
theorem dX6_tellsQuarrel_154 : decode cX6_tellsQuarrel 154 = .ok (.ldc2_w 324, 3) := by decide +kernel
theorem dX6_tellsQuarrel_157 : decode cX6_tellsQuarrel 157 = .ok (.lload 4, 2) := by decide +kernel
theorem dX6_tellsQuarrel_159 : decode cX6_tellsQuarrel 159 = .ok (.lmul, 1) := by decide +kernel
theorem dX6_tellsQuarrel_160 : decode cX6_tellsQuarrel 160 = .ok (.aload_n 0, 1) := by decide +kernel
theorem dX6_tellsQuarrel_161 : decode cX6_tellsQuarrel 161 = .ok (.iconst 5, 1) := by decide +kernel
theorem dX6_tellsQuarrel_162 : decode cX6_tellsQuarrel 162 = .ok (.iload_n 3, 1) := by decide +kernel
theorem dX6_tellsQuarrel_163 : decode cX6_tellsQuarrel 163 = .ok (.iconst 0, 1) := by decide +kernel
theorem dX6_tellsQuarrel_164 : decode cX6_tellsQuarrel 164 = .ok (.invokevirtual 301, 3) := by decide +kernel
theorem dX6_tellsQuarrel_167 : decode cX6_tellsQuarrel 167 = .ok (.ladd, 1) := by decide +kernel
theorem dX6_tellsQuarrel_168 : decode cX6_tellsQuarrel 168 = .ok (.lstore 4, 2) := by decide +kernel
theorem dX6_tellsQuarrel_170 : decode cX6_tellsQuarrel 170 = .ok (.ldc2_w 324, 3) := by decide +kernel
theorem dX6_tellsQuarrel_173 : decode cX6_tellsQuarrel 173 = .ok (.lload 4, 2) := by decide +kernel
theorem dX6_tellsQuarrel_175 : decode cX6_tellsQuarrel 175 = .ok (.lmul, 1) := by decide +kernel
theorem dX6_tellsQuarrel_176 : decode cX6_tellsQuarrel 176 = .ok (.aload_n 0, 1) := by decide +kernel
theorem dX6_tellsQuarrel_177 : decode cX6_tellsQuarrel 177 = .ok (.iconst 5, 1) := by decide +kernel
theorem dX6_tellsQuarrel_178 : decode cX6_tellsQuarrel 178 = .ok (.iload_n 3, 1) := by decide +kernel
theorem dX6_tellsQuarrel_179 : decode cX6_tellsQuarrel 179 = .ok (.iconst 1, 1) := by decide +kernel
theorem dX6_tellsQuarrel_180 : decode cX6_tellsQuarrel 180 = .ok (.invokevirtual 301, 3) := by decide +kernel
theorem dX6_tellsQuarrel_183 : decode cX6_tellsQuarrel 183 = .ok (.ladd, 1) := by decide +kernel
theorem dX6_tellsQuarrel_184 : decode cX6_tellsQuarrel 184 = .ok (.lreturn, 1) := by decide +kernel
theorem dX6_tellsDay_0 : decode cX6_tellsDay 0 = .ok (.lload_n 1, 1) := by decide +kernel
theorem dX6_tellsDay_1 : decode cX6_tellsDay 1 = .ok (.lstore 5, 2) := by decide +kernel
theorem dX6_tellsDay_3 : decode cX6_tellsDay 3 = .ok (.iconst 0, 1) := by decide +kernel
theorem dX6_tellsDay_4 : decode cX6_tellsDay 4 = .ok (.istore 7, 2) := by decide +kernel
theorem dX6_tellsDay_6 : decode cX6_tellsDay 6 = .ok (.iload 7, 2) := by decide +kernel
theorem dX6_tellsDay_8 : decode cX6_tellsDay 8 = .ok (.iconst 3, 1) := by decide +kernel
theorem dX6_tellsDay_9 : decode cX6_tellsDay 9 = .ok (.if_icmp .ge 28, 3) := by decide +kernel
theorem dX6_tellsDay_12 : decode cX6_tellsDay 12 = .ok (.ldc2_w 324, 3) := by decide +kernel
theorem dX6_tellsDay_15 : decode cX6_tellsDay 15 = .ok (.lload 5, 2) := by decide +kernel
theorem dX6_tellsDay_17 : decode cX6_tellsDay 17 = .ok (.lmul, 1) := by decide +kernel
theorem dX6_tellsDay_18 : decode cX6_tellsDay 18 = .ok (.aload_n 0, 1) := by decide +kernel
theorem dX6_tellsDay_19 : decode cX6_tellsDay 19 = .ok (.iload_n 3, 1) := by decide +kernel
theorem dX6_tellsDay_20 : decode cX6_tellsDay 20 = .ok (.iload 4, 2) := by decide +kernel
theorem dX6_tellsDay_22 : decode cX6_tellsDay 22 = .ok (.iload 7, 2) := by decide +kernel
theorem dX6_tellsDay_24 : decode cX6_tellsDay 24 = .ok (.invokevirtual 228, 3) := by decide +kernel
theorem dX6_tellsDay_27 : decode cX6_tellsDay 27 = .ok (.i2l, 1) := by decide +kernel
theorem dX6_tellsDay_28 : decode cX6_tellsDay 28 = .ok (.ladd, 1) := by decide +kernel
theorem dX6_tellsDay_29 : decode cX6_tellsDay 29 = .ok (.lstore 5, 2) := by decide +kernel
theorem dX6_tellsDay_31 : decode cX6_tellsDay 31 = .ok (.iinc 7 1, 3) := by decide +kernel
theorem dX6_tellsDay_34 : decode cX6_tellsDay 34 = .ok (.goto (-28), 3) := by decide +kernel
theorem dX6_tellsDay_37 : decode cX6_tellsDay 37 = .ok (.lload 5, 2) := by decide +kernel
theorem dX6_tellsDay_39 : decode cX6_tellsDay 39 = .ok (.lreturn, 1) := by decide +kernel
theorem dX6_tellsPerson_0 : decode cX6_tellsPerson 0 = .ok (.aload_n 0, 1) := by decide +kernel
theorem dX6_tellsPerson_1 : decode cX6_tellsPerson 1 = .ok (.invokevirtual 219, 3) := by decide +kernel
theorem dX6_tellsPerson_4 : decode cX6_tellsPerson 4 = .ok (.ldc2_w 324, 3) := by decide +kernel
theorem dX6_tellsPerson_7 : decode cX6_tellsPerson 7 = .ok (.lload_n 1, 1) := by decide +kernel
theorem dX6_tellsPerson_8 : decode cX6_tellsPerson 8 = .ok (.lmul, 1) := by decide +kernel
theorem dX6_tellsPerson_9 : decode cX6_tellsPerson 9 = .ok (.aload_n 0, 1) := by decide +kernel
theorem dX6_tellsPerson_10 : decode cX6_tellsPerson 10 = .ok (.getfield 28, 3) := by decide +kernel
theorem dX6_tellsPerson_13 : decode cX6_tellsPerson 13 = .ok (.iconst 2, 1) := by decide +kernel
theorem dX6_tellsPerson_14 : decode cX6_tellsPerson 14 = .ok (.iload_n 3, 1) := by decide +kernel
theorem dX6_tellsPerson_15 : decode cX6_tellsPerson 15 = .ok (.imul, 1) := by decide +kernel
theorem dX6_tellsPerson_16 : decode cX6_tellsPerson 16 = .ok (.iaload, 1) := by decide +kernel
theorem dX6_tellsPerson_17 : decode cX6_tellsPerson 17 = .ok (.i2l, 1) := by decide +kernel
theorem dX6_tellsPerson_18 : decode cX6_tellsPerson 18 = .ok (.ladd, 1) := by decide +kernel
theorem dX6_tellsPerson_19 : decode cX6_tellsPerson 19 = .ok (.lstore 4, 2) := by decide +kernel
theorem dX6_tellsPerson_21 : decode cX6_tellsPerson 21 = .ok (.ldc2_w 324, 3) := by decide +kernel
theorem dX6_tellsPerson_24 : decode cX6_tellsPerson 24 = .ok (.lload 4, 2) := by decide +kernel
theorem dX6_tellsPerson_26 : decode cX6_tellsPerson 26 = .ok (.lmul, 1) := by decide +kernel
theorem dX6_tellsPerson_27 : decode cX6_tellsPerson 27 = .ok (.aload_n 0, 1) := by decide +kernel
theorem dX6_tellsPerson_28 : decode cX6_tellsPerson 28 = .ok (.getfield 28, 3) := by decide +kernel
theorem dX6_tellsPerson_31 : decode cX6_tellsPerson 31 = .ok (.iconst 2, 1) := by decide +kernel
theorem dX6_tellsPerson_32 : decode cX6_tellsPerson 32 = .ok (.iload_n 3, 1) := by decide +kernel
theorem dX6_tellsPerson_33 : decode cX6_tellsPerson 33 = .ok (.imul, 1) := by decide +kernel
theorem dX6_tellsPerson_34 : decode cX6_tellsPerson 34 = .ok (.iconst 1, 1) := by decide +kernel
theorem dX6_tellsPerson_35 : decode cX6_tellsPerson 35 = .ok (.iadd, 1) := by decide +kernel
theorem dX6_tellsPerson_36 : decode cX6_tellsPerson 36 = .ok (.iaload, 1) := by decide +kernel
theorem dX6_tellsPerson_37 : decode cX6_tellsPerson 37 = .ok (.i2l, 1) := by decide +kernel
theorem dX6_tellsPerson_38 : decode cX6_tellsPerson 38 = .ok (.ladd, 1) := by decide +kernel
theorem dX6_tellsPerson_39 : decode cX6_tellsPerson 39 = .ok (.lstore 4, 2) := by decide +kernel
theorem dX6_tellsPerson_41 : decode cX6_tellsPerson 41 = .ok (.aload_n 0, 1) := by decide +kernel
theorem dX6_tellsPerson_42 : decode cX6_tellsPerson 42 = .ok (.aload_n 0, 1) := by decide +kernel
theorem dX6_tellsPerson_43 : decode cX6_tellsPerson 43 = .ok (.aload_n 0, 1) := by decide +kernel
theorem dX6_tellsPerson_44 : decode cX6_tellsPerson 44 = .ok (.aload_n 0, 1) := by decide +kernel
theorem dX6_tellsPerson_45 : decode cX6_tellsPerson 45 = .ok (.lload 4, 2) := by decide +kernel
theorem dX6_tellsPerson_47 : decode cX6_tellsPerson 47 = .ok (.iconst 0, 1) := by decide +kernel
theorem dX6_tellsPerson_48 : decode cX6_tellsPerson 48 = .ok (.iload_n 3, 1) := by decide +kernel
theorem dX6_tellsPerson_49 : decode cX6_tellsPerson 49 = .ok (.invokevirtual 330, 3) := by decide +kernel
theorem dX6_tellsPerson_52 : decode cX6_tellsPerson 52 = .ok (.bipush 6, 2) := by decide +kernel
theorem dX6_tellsPerson_54 : decode cX6_tellsPerson 54 = .ok (.iload_n 3, 1) := by decide +kernel
theorem dX6_tellsPerson_55 : decode cX6_tellsPerson 55 = .ok (.invokevirtual 330, 3) := by decide +kernel
theorem dX6_tellsPerson_58 : decode cX6_tellsPerson 58 = .ok (.bipush 12, 2) := by decide +kernel
theorem dX6_tellsPerson_60 : decode cX6_tellsPerson 60 = .ok (.iload_n 3, 1) := by decide +kernel
theorem dX6_tellsPerson_61 : decode cX6_tellsPerson 61 = .ok (.invokevirtual 330, 3) := by decide +kernel
theorem dX6_tellsPerson_64 : decode cX6_tellsPerson 64 = .ok (.bipush 23, 2) := by decide +kernel
theorem dX6_tellsPerson_66 : decode cX6_tellsPerson 66 = .ok (.iload_n 3, 1) := by decide +kernel
theorem dX6_tellsPerson_67 : decode cX6_tellsPerson 67 = .ok (.invokevirtual 330, 3) := by decide +kernel
theorem dX6_tellsPerson_70 : decode cX6_tellsPerson 70 = .ok (.lstore 4, 2) := by decide +kernel
theorem dX6_tellsPerson_72 : decode cX6_tellsPerson 72 = .ok (.ldc2_w 324, 3) := by decide +kernel
theorem dX6_tellsPerson_75 : decode cX6_tellsPerson 75 = .ok (.lload 4, 2) := by decide +kernel
theorem dX6_tellsPerson_77 : decode cX6_tellsPerson 77 = .ok (.lmul, 1) := by decide +kernel
theorem dX6_tellsPerson_78 : decode cX6_tellsPerson 78 = .ok (.aload_n 0, 1) := by decide +kernel
theorem dX6_tellsPerson_79 : decode cX6_tellsPerson 79 = .ok (.iload_n 3, 1) := by decide +kernel
theorem dX6_tellsPerson_80 : decode cX6_tellsPerson 80 = .ok (.invokevirtual 280, 3) := by decide +kernel
theorem dX6_tellsPerson_83 : decode cX6_tellsPerson 83 = .ok (.i2l, 1) := by decide +kernel
theorem dX6_tellsPerson_84 : decode cX6_tellsPerson 84 = .ok (.ladd, 1) := by decide +kernel
theorem dX6_tellsPerson_85 : decode cX6_tellsPerson 85 = .ok (.lstore 4, 2) := by decide +kernel
theorem dX6_tellsPerson_87 : decode cX6_tellsPerson 87 = .ok (.ldc2_w 324, 3) := by decide +kernel
theorem dX6_tellsPerson_90 : decode cX6_tellsPerson 90 = .ok (.lload 4, 2) := by decide +kernel
theorem dX6_tellsPerson_92 : decode cX6_tellsPerson 92 = .ok (.lmul, 1) := by decide +kernel
theorem dX6_tellsPerson_93 : decode cX6_tellsPerson 93 = .ok (.aload_n 0, 1) := by decide +kernel
theorem dX6_tellsPerson_94 : decode cX6_tellsPerson 94 = .ok (.iload_n 3, 1) := by decide +kernel
theorem dX6_tellsPerson_95 : decode cX6_tellsPerson 95 = .ok (.invokevirtual 283, 3) := by decide +kernel
theorem dX6_tellsPerson_98 : decode cX6_tellsPerson 98 = .ok (.i2l, 1) := by decide +kernel
theorem dX6_tellsPerson_99 : decode cX6_tellsPerson 99 = .ok (.ladd, 1) := by decide +kernel
theorem dX6_tellsPerson_100 : decode cX6_tellsPerson 100 = .ok (.lstore 4, 2) := by decide +kernel
theorem dX6_tellsPerson_102 : decode cX6_tellsPerson 102 = .ok (.ldc2_w 324, 3) := by decide +kernel
theorem dX6_tellsPerson_105 : decode cX6_tellsPerson 105 = .ok (.lload 4, 2) := by decide +kernel
theorem dX6_tellsPerson_107 : decode cX6_tellsPerson 107 = .ok (.lmul, 1) := by decide +kernel
theorem dX6_tellsPerson_108 : decode cX6_tellsPerson 108 = .ok (.aload_n 0, 1) := by decide +kernel
theorem dX6_tellsPerson_109 : decode cX6_tellsPerson 109 = .ok (.iload_n 3, 1) := by decide +kernel
theorem dX6_tellsPerson_110 : decode cX6_tellsPerson 110 = .ok (.invokevirtual 292, 3) := by decide +kernel
theorem dX6_tellsPerson_113 : decode cX6_tellsPerson 113 = .ok (.i2l, 1) := by decide +kernel
theorem dX6_tellsPerson_114 : decode cX6_tellsPerson 114 = .ok (.ladd, 1) := by decide +kernel
theorem dX6_tellsPerson_115 : decode cX6_tellsPerson 115 = .ok (.lreturn, 1) := by decide +kernel
theorem dX6_digest_0 : decode cX6_digest 0 = .ok (.ldc2_w 333, 3) := by decide +kernel
theorem dX6_digest_3 : decode cX6_digest 3 = .ok (.lstore_n 1, 1) := by decide +kernel
theorem dX6_digest_4 : decode cX6_digest 4 = .ok (.iconst 0, 1) := by decide +kernel
theorem dX6_digest_5 : decode cX6_digest 5 = .ok (.istore_n 3, 1) := by decide +kernel
theorem dX6_digest_6 : decode cX6_digest 6 = .ok (.iload_n 3, 1) := by decide +kernel
theorem dX6_digest_7 : decode cX6_digest 7 = .ok (.bipush 8, 2) := by decide +kernel
theorem dX6_digest_9 : decode cX6_digest 9 = .ok (.if_icmp .ge 22, 3) := by decide +kernel
theorem dX6_digest_12 : decode cX6_digest 12 = .ok (.ldc2_w 324, 3) := by decide +kernel
theorem dX6_digest_15 : decode cX6_digest 15 = .ok (.lload_n 1, 1) := by decide +kernel
theorem dX6_digest_16 : decode cX6_digest 16 = .ok (.lmul, 1) := by decide +kernel
theorem dX6_digest_17 : decode cX6_digest 17 = .ok (.aload_n 0, 1) := by decide +kernel
theorem dX6_digest_18 : decode cX6_digest 18 = .ok (.iload_n 3, 1) := by decide +kernel
theorem dX6_digest_19 : decode cX6_digest 19 = .ok (.invokevirtual 335, 3) := by decide +kernel
theorem dX6_digest_22 : decode cX6_digest 22 = .ok (.i2l, 1) := by decide +kernel
theorem dX6_digest_23 : decode cX6_digest 23 = .ok (.ladd, 1) := by decide +kernel
theorem dX6_digest_24 : decode cX6_digest 24 = .ok (.lstore_n 1, 1) := by decide +kernel
theorem dX6_digest_25 : decode cX6_digest 25 = .ok (.iinc 3 1, 3) := by decide +kernel
theorem dX6_digest_28 : decode cX6_digest 28 = .ok (.goto (-22), 3) := by decide +kernel
theorem dX6_digest_31 : decode cX6_digest 31 = .ok (.iconst 0, 1) := by decide +kernel
theorem dX6_digest_32 : decode cX6_digest 32 = .ok (.istore_n 3, 1) := by decide +kernel
theorem dX6_digest_33 : decode cX6_digest 33 = .ok (.iload_n 3, 1) := by decide +kernel
theorem dX6_digest_34 : decode cX6_digest 34 = .ok (.iconst 3, 1) := by decide +kernel
theorem dX6_digest_35 : decode cX6_digest 35 = .ok (.if_icmp .ge 22, 3) := by decide +kernel
theorem dX6_digest_38 : decode cX6_digest 38 = .ok (.ldc2_w 324, 3) := by decide +kernel
theorem dX6_digest_41 : decode cX6_digest 41 = .ok (.lload_n 1, 1) := by decide +kernel
theorem dX6_digest_42 : decode cX6_digest 42 = .ok (.lmul, 1) := by decide +kernel
theorem dX6_digest_43 : decode cX6_digest 43 = .ok (.aload_n 0, 1) := by decide +kernel
theorem dX6_digest_44 : decode cX6_digest 44 = .ok (.iload_n 3, 1) := by decide +kernel
theorem dX6_digest_45 : decode cX6_digest 45 = .ok (.invokevirtual 167, 3) := by decide +kernel
theorem dX6_digest_48 : decode cX6_digest 48 = .ok (.i2l, 1) := by decide +kernel
theorem dX6_digest_49 : decode cX6_digest 49 = .ok (.ladd, 1) := by decide +kernel
theorem dX6_digest_50 : decode cX6_digest 50 = .ok (.lstore_n 1, 1) := by decide +kernel
theorem dX6_digest_51 : decode cX6_digest 51 = .ok (.iinc 3 1, 3) := by decide +kernel
theorem dX6_digest_54 : decode cX6_digest 54 = .ok (.goto (-21), 3) := by decide +kernel
theorem dX6_digest_57 : decode cX6_digest 57 = .ok (.iconst 0, 1) := by decide +kernel
theorem dX6_digest_58 : decode cX6_digest 58 = .ok (.istore_n 3, 1) := by decide +kernel
theorem dX6_digest_59 : decode cX6_digest 59 = .ok (.iload_n 3, 1) := by decide +kernel
theorem dX6_digest_60 : decode cX6_digest 60 = .ok (.aload_n 0, 1) := by decide +kernel
theorem dX6_digest_61 : decode cX6_digest 61 = .ok (.getfield 145, 3) := by decide +kernel
theorem dX6_digest_64 : decode cX6_digest 64 = .ok (.if_icmp .ge 16, 3) := by decide +kernel
theorem dX6_digest_67 : decode cX6_digest 67 = .ok (.aload_n 0, 1) := by decide +kernel
theorem dX6_digest_68 : decode cX6_digest 68 = .ok (.lload_n 1, 1) := by decide +kernel
theorem dX6_digest_69 : decode cX6_digest 69 = .ok (.iload_n 3, 1) := by decide +kernel
theorem dX6_digest_70 : decode cX6_digest 70 = .ok (.invokevirtual 338, 3) := by decide +kernel
theorem dX6_digest_73 : decode cX6_digest 73 = .ok (.lstore_n 1, 1) := by decide +kernel
theorem dX6_digest_74 : decode cX6_digest 74 = .ok (.iinc 3 1, 3) := by decide +kernel
theorem dX6_digest_77 : decode cX6_digest 77 = .ok (.goto (-18), 3) := by decide +kernel
theorem dX6_digest_80 : decode cX6_digest 80 = .ok (.iconst 0, 1) := by decide +kernel
theorem dX6_digest_81 : decode cX6_digest 81 = .ok (.istore_n 3, 1) := by decide +kernel
theorem dX6_digest_82 : decode cX6_digest 82 = .ok (.iload_n 3, 1) := by decide +kernel
theorem dX6_digest_83 : decode cX6_digest 83 = .ok (.aload_n 0, 1) := by decide +kernel
theorem dX6_digest_84 : decode cX6_digest 84 = .ok (.getfield 131, 3) := by decide +kernel
theorem dX6_digest_87 : decode cX6_digest 87 = .ok (.if_icmp .ge 16, 3) := by decide +kernel
theorem dX6_digest_90 : decode cX6_digest 90 = .ok (.aload_n 0, 1) := by decide +kernel
theorem dX6_digest_91 : decode cX6_digest 91 = .ok (.lload_n 1, 1) := by decide +kernel
theorem dX6_digest_92 : decode cX6_digest 92 = .ok (.iload_n 3, 1) := by decide +kernel
theorem dX6_digest_93 : decode cX6_digest 93 = .ok (.invokevirtual 342, 3) := by decide +kernel
theorem dX6_digest_96 : decode cX6_digest 96 = .ok (.lstore_n 1, 1) := by decide +kernel
theorem dX6_digest_97 : decode cX6_digest 97 = .ok (.iinc 3 1, 3) := by decide +kernel
theorem dX6_digest_100 : decode cX6_digest 100 = .ok (.goto (-18), 3) := by decide +kernel
theorem dX6_digest_103 : decode cX6_digest 103 = .ok (.aload_n 0, 1) := by decide +kernel
theorem dX6_digest_104 : decode cX6_digest 104 = .ok (.invokevirtual 219, 3) := by decide +kernel
theorem dX6_digest_107 : decode cX6_digest 107 = .ok (.iconst 0, 1) := by decide +kernel
theorem dX6_digest_108 : decode cX6_digest 108 = .ok (.istore_n 3, 1) := by decide +kernel
theorem dX6_digest_109 : decode cX6_digest 109 = .ok (.iload_n 3, 1) := by decide +kernel
theorem dX6_digest_110 : decode cX6_digest 110 = .ok (.bipush 24, 2) := by decide +kernel
theorem dX6_digest_112 : decode cX6_digest 112 = .ok (.if_icmp .ge 51, 3) := by decide +kernel
theorem dX6_digest_115 : decode cX6_digest 115 = .ok (.ldc2_w 324, 3) := by decide +kernel
theorem dX6_digest_118 : decode cX6_digest 118 = .ok (.lload_n 1, 1) := by decide +kernel
theorem dX6_digest_119 : decode cX6_digest 119 = .ok (.lmul, 1) := by decide +kernel
theorem dX6_digest_120 : decode cX6_digest 120 = .ok (.aload_n 0, 1) := by decide +kernel
theorem dX6_digest_121 : decode cX6_digest 121 = .ok (.getfield 34, 3) := by decide +kernel
theorem dX6_digest_124 : decode cX6_digest 124 = .ok (.iload_n 3, 1) := by decide +kernel
theorem dX6_digest_125 : decode cX6_digest 125 = .ok (.iaload, 1) := by decide +kernel
theorem dX6_digest_126 : decode cX6_digest 126 = .ok (.i2l, 1) := by decide +kernel
theorem dX6_digest_127 : decode cX6_digest 127 = .ok (.ladd, 1) := by decide +kernel
theorem dX6_digest_128 : decode cX6_digest 128 = .ok (.lstore_n 1, 1) := by decide +kernel
theorem dX6_digest_129 : decode cX6_digest 129 = .ok (.ldc2_w 324, 3) := by decide +kernel
theorem dX6_digest_132 : decode cX6_digest 132 = .ok (.lload_n 1, 1) := by decide +kernel
theorem dX6_digest_133 : decode cX6_digest 133 = .ok (.lmul, 1) := by decide +kernel
theorem dX6_digest_134 : decode cX6_digest 134 = .ok (.aload_n 0, 1) := by decide +kernel
theorem dX6_digest_135 : decode cX6_digest 135 = .ok (.iload_n 3, 1) := by decide +kernel
theorem dX6_digest_136 : decode cX6_digest 136 = .ok (.iconst 0, 1) := by decide +kernel
theorem dX6_digest_137 : decode cX6_digest 137 = .ok (.invokevirtual 231, 3) := by decide +kernel
theorem dX6_digest_140 : decode cX6_digest 140 = .ok (.i2l, 1) := by decide +kernel
theorem dX6_digest_141 : decode cX6_digest 141 = .ok (.ladd, 1) := by decide +kernel
theorem dX6_digest_142 : decode cX6_digest 142 = .ok (.lstore_n 1, 1) := by decide +kernel
theorem dX6_digest_143 : decode cX6_digest 143 = .ok (.ldc2_w 324, 3) := by decide +kernel
theorem dX6_digest_146 : decode cX6_digest 146 = .ok (.lload_n 1, 1) := by decide +kernel
theorem dX6_digest_147 : decode cX6_digest 147 = .ok (.lmul, 1) := by decide +kernel
theorem dX6_digest_148 : decode cX6_digest 148 = .ok (.aload_n 0, 1) := by decide +kernel
theorem dX6_digest_149 : decode cX6_digest 149 = .ok (.iload_n 3, 1) := by decide +kernel
theorem dX6_digest_150 : decode cX6_digest 150 = .ok (.iconst 1, 1) := by decide +kernel
theorem dX6_digest_151 : decode cX6_digest 151 = .ok (.invokevirtual 231, 3) := by decide +kernel
theorem dX6_digest_154 : decode cX6_digest 154 = .ok (.i2l, 1) := by decide +kernel
theorem dX6_digest_155 : decode cX6_digest 155 = .ok (.ladd, 1) := by decide +kernel
theorem dX6_digest_156 : decode cX6_digest 156 = .ok (.lstore_n 1, 1) := by decide +kernel
theorem dX6_digest_157 : decode cX6_digest 157 = .ok (.iinc 3 1, 3) := by decide +kernel
theorem dX6_digest_160 : decode cX6_digest 160 = .ok (.goto (-51), 3) := by decide +kernel
theorem dX6_digest_163 : decode cX6_digest 163 = .ok (.ldc2_w 324, 3) := by decide +kernel
theorem dX6_digest_166 : decode cX6_digest 166 = .ok (.lload_n 1, 1) := by decide +kernel
theorem dX6_digest_167 : decode cX6_digest 167 = .ok (.lmul, 1) := by decide +kernel
theorem dX6_digest_168 : decode cX6_digest 168 = .ok (.aload_n 0, 1) := by decide +kernel
theorem dX6_digest_169 : decode cX6_digest 169 = .ok (.iconst 0, 1) := by decide +kernel
theorem dX6_digest_170 : decode cX6_digest 170 = .ok (.invokevirtual 234, 3) := by decide +kernel
theorem dX6_digest_173 : decode cX6_digest 173 = .ok (.i2l, 1) := by decide +kernel
theorem dX6_digest_174 : decode cX6_digest 174 = .ok (.ladd, 1) := by decide +kernel
theorem dX6_digest_175 : decode cX6_digest 175 = .ok (.lstore_n 1, 1) := by decide +kernel
theorem dX6_digest_176 : decode cX6_digest 176 = .ok (.ldc2_w 324, 3) := by decide +kernel
theorem dX6_digest_179 : decode cX6_digest 179 = .ok (.lload_n 1, 1) := by decide +kernel
theorem dX6_digest_180 : decode cX6_digest 180 = .ok (.lmul, 1) := by decide +kernel
theorem dX6_digest_181 : decode cX6_digest 181 = .ok (.aload_n 0, 1) := by decide +kernel
theorem dX6_digest_182 : decode cX6_digest 182 = .ok (.iconst 1, 1) := by decide +kernel
theorem dX6_digest_183 : decode cX6_digest 183 = .ok (.invokevirtual 234, 3) := by decide +kernel
theorem dX6_digest_186 : decode cX6_digest 186 = .ok (.i2l, 1) := by decide +kernel
theorem dX6_digest_187 : decode cX6_digest 187 = .ok (.ladd, 1) := by decide +kernel
theorem dX6_digest_188 : decode cX6_digest 188 = .ok (.lstore_n 1, 1) := by decide +kernel
theorem dX6_digest_189 : decode cX6_digest 189 = .ok (.ldc2_w 324, 3) := by decide +kernel
theorem dX6_digest_192 : decode cX6_digest 192 = .ok (.lload_n 1, 1) := by decide +kernel
theorem dX6_digest_193 : decode cX6_digest 193 = .ok (.lmul, 1) := by decide +kernel
theorem dX6_digest_194 : decode cX6_digest 194 = .ok (.aload_n 0, 1) := by decide +kernel
theorem dX6_digest_195 : decode cX6_digest 195 = .ok (.getfield 199, 3) := by decide +kernel
theorem dX6_digest_198 : decode cX6_digest 198 = .ok (.i2l, 1) := by decide +kernel
theorem dX6_digest_199 : decode cX6_digest 199 = .ok (.ladd, 1) := by decide +kernel
theorem dX6_digest_200 : decode cX6_digest 200 = .ok (.lstore_n 1, 1) := by decide +kernel
theorem dX6_digest_201 : decode cX6_digest 201 = .ok (.ldc2_w 324, 3) := by decide +kernel
theorem dX6_digest_204 : decode cX6_digest 204 = .ok (.lload_n 1, 1) := by decide +kernel
theorem dX6_digest_205 : decode cX6_digest 205 = .ok (.lmul, 1) := by decide +kernel
theorem dX6_digest_206 : decode cX6_digest 206 = .ok (.aload_n 0, 1) := by decide +kernel
theorem dX6_digest_207 : decode cX6_digest 207 = .ok (.invokevirtual 237, 3) := by decide +kernel
theorem dX6_digest_210 : decode cX6_digest 210 = .ok (.i2l, 1) := by decide +kernel
theorem dX6_digest_211 : decode cX6_digest 211 = .ok (.ladd, 1) := by decide +kernel
theorem dX6_digest_212 : decode cX6_digest 212 = .ok (.lstore_n 1, 1) := by decide +kernel
theorem dX6_digest_213 : decode cX6_digest 213 = .ok (.ldc2_w 324, 3) := by decide +kernel
theorem dX6_digest_216 : decode cX6_digest 216 = .ok (.lload_n 1, 1) := by decide +kernel
theorem dX6_digest_217 : decode cX6_digest 217 = .ok (.lmul, 1) := by decide +kernel
theorem dX6_digest_218 : decode cX6_digest 218 = .ok (.aload_n 0, 1) := by decide +kernel
theorem dX6_digest_219 : decode cX6_digest 219 = .ok (.invokevirtual 240, 3) := by decide +kernel
theorem dX6_digest_222 : decode cX6_digest 222 = .ok (.i2l, 1) := by decide +kernel
theorem dX6_digest_223 : decode cX6_digest 223 = .ok (.ladd, 1) := by decide +kernel
theorem dX6_digest_224 : decode cX6_digest 224 = .ok (.lstore_n 1, 1) := by decide +kernel
theorem dX6_digest_225 : decode cX6_digest 225 = .ok (.ldc2_w 324, 3) := by decide +kernel
theorem dX6_digest_228 : decode cX6_digest 228 = .ok (.lload_n 1, 1) := by decide +kernel
theorem dX6_digest_229 : decode cX6_digest 229 = .ok (.lmul, 1) := by decide +kernel
theorem dX6_digest_230 : decode cX6_digest 230 = .ok (.aload_n 0, 1) := by decide +kernel
theorem dX6_digest_231 : decode cX6_digest 231 = .ok (.iconst 0, 1) := by decide +kernel
theorem dX6_digest_232 : decode cX6_digest 232 = .ok (.invokevirtual 255, 3) := by decide +kernel
theorem dX6_digest_235 : decode cX6_digest 235 = .ok (.i2l, 1) := by decide +kernel
theorem dX6_digest_236 : decode cX6_digest 236 = .ok (.ladd, 1) := by decide +kernel
theorem dX6_digest_237 : decode cX6_digest 237 = .ok (.lstore_n 1, 1) := by decide +kernel
theorem dX6_digest_238 : decode cX6_digest 238 = .ok (.ldc2_w 324, 3) := by decide +kernel
theorem dX6_digest_241 : decode cX6_digest 241 = .ok (.lload_n 1, 1) := by decide +kernel
theorem dX6_digest_242 : decode cX6_digest 242 = .ok (.lmul, 1) := by decide +kernel
theorem dX6_digest_243 : decode cX6_digest 243 = .ok (.aload_n 0, 1) := by decide +kernel
theorem dX6_digest_244 : decode cX6_digest 244 = .ok (.iconst 1, 1) := by decide +kernel
theorem dX6_digest_245 : decode cX6_digest 245 = .ok (.invokevirtual 255, 3) := by decide +kernel
theorem dX6_digest_248 : decode cX6_digest 248 = .ok (.i2l, 1) := by decide +kernel
theorem dX6_digest_249 : decode cX6_digest 249 = .ok (.ladd, 1) := by decide +kernel
theorem dX6_digest_250 : decode cX6_digest 250 = .ok (.lstore_n 1, 1) := by decide +kernel
theorem dX6_digest_251 : decode cX6_digest 251 = .ok (.ldc2_w 324, 3) := by decide +kernel
theorem dX6_digest_254 : decode cX6_digest 254 = .ok (.lload_n 1, 1) := by decide +kernel
theorem dX6_digest_255 : decode cX6_digest 255 = .ok (.lmul, 1) := by decide +kernel
theorem dX6_digest_256 : decode cX6_digest 256 = .ok (.aload_n 0, 1) := by decide +kernel
theorem dX6_digest_257 : decode cX6_digest 257 = .ok (.iconst (-1), 1) := by decide +kernel
theorem dX6_digest_258 : decode cX6_digest 258 = .ok (.invokevirtual 263, 3) := by decide +kernel
theorem dX6_digest_261 : decode cX6_digest 261 = .ok (.i2l, 1) := by decide +kernel
theorem dX6_digest_262 : decode cX6_digest 262 = .ok (.ladd, 1) := by decide +kernel
theorem dX6_digest_263 : decode cX6_digest 263 = .ok (.lstore_n 1, 1) := by decide +kernel
theorem dX6_digest_264 : decode cX6_digest 264 = .ok (.ldc2_w 324, 3) := by decide +kernel
theorem dX6_digest_267 : decode cX6_digest 267 = .ok (.lload_n 1, 1) := by decide +kernel
theorem dX6_digest_268 : decode cX6_digest 268 = .ok (.lmul, 1) := by decide +kernel
theorem dX6_digest_269 : decode cX6_digest 269 = .ok (.aload_n 0, 1) := by decide +kernel
theorem dX6_digest_270 : decode cX6_digest 270 = .ok (.iconst 0, 1) := by decide +kernel
theorem dX6_digest_271 : decode cX6_digest 271 = .ok (.invokevirtual 263, 3) := by decide +kernel
theorem dX6_digest_274 : decode cX6_digest 274 = .ok (.i2l, 1) := by decide +kernel
theorem dX6_digest_275 : decode cX6_digest 275 = .ok (.ladd, 1) := by decide +kernel
theorem dX6_digest_276 : decode cX6_digest 276 = .ok (.lstore_n 1, 1) := by decide +kernel
theorem dX6_digest_277 : decode cX6_digest 277 = .ok (.ldc2_w 324, 3) := by decide +kernel
theorem dX6_digest_280 : decode cX6_digest 280 = .ok (.lload_n 1, 1) := by decide +kernel
theorem dX6_digest_281 : decode cX6_digest 281 = .ok (.lmul, 1) := by decide +kernel
theorem dX6_digest_282 : decode cX6_digest 282 = .ok (.aload_n 0, 1) := by decide +kernel
theorem dX6_digest_283 : decode cX6_digest 283 = .ok (.invokevirtual 277, 3) := by decide +kernel
theorem dX6_digest_286 : decode cX6_digest 286 = .ok (.i2l, 1) := by decide +kernel
theorem dX6_digest_287 : decode cX6_digest 287 = .ok (.ladd, 1) := by decide +kernel
theorem dX6_digest_288 : decode cX6_digest 288 = .ok (.lstore_n 1, 1) := by decide +kernel
theorem dX6_digest_289 : decode cX6_digest 289 = .ok (.ldc2_w 324, 3) := by decide +kernel
theorem dX6_digest_292 : decode cX6_digest 292 = .ok (.lload_n 1, 1) := by decide +kernel
theorem dX6_digest_293 : decode cX6_digest 293 = .ok (.lmul, 1) := by decide +kernel
theorem dX6_digest_294 : decode cX6_digest 294 = .ok (.aload_n 0, 1) := by decide +kernel
theorem dX6_digest_295 : decode cX6_digest 295 = .ok (.bipush 7, 2) := by decide +kernel
theorem dX6_digest_297 : decode cX6_digest 297 = .ok (.bipush 20, 2) := by decide +kernel
theorem dX6_digest_299 : decode cX6_digest 299 = .ok (.iconst 0, 1) := by decide +kernel
theorem dX6_digest_300 : decode cX6_digest 300 = .ok (.invokevirtual 321, 3) := by decide +kernel
theorem dX6_digest_303 : decode cX6_digest 303 = .ok (.i2l, 1) := by decide +kernel
theorem dX6_digest_304 : decode cX6_digest 304 = .ok (.ladd, 1) := by decide +kernel
theorem dX6_digest_305 : decode cX6_digest 305 = .ok (.lstore_n 1, 1) := by decide +kernel
theorem dX6_digest_306 : decode cX6_digest 306 = .ok (.ldc2_w 324, 3) := by decide +kernel
theorem dX6_digest_309 : decode cX6_digest 309 = .ok (.lload_n 1, 1) := by decide +kernel
theorem dX6_digest_310 : decode cX6_digest 310 = .ok (.lmul, 1) := by decide +kernel
theorem dX6_digest_311 : decode cX6_digest 311 = .ok (.aload_n 0, 1) := by decide +kernel
theorem dX6_digest_312 : decode cX6_digest 312 = .ok (.bipush 7, 2) := by decide +kernel
theorem dX6_digest_314 : decode cX6_digest 314 = .ok (.bipush 20, 2) := by decide +kernel
theorem dX6_digest_316 : decode cX6_digest 316 = .ok (.iconst 1, 1) := by decide +kernel
theorem dX6_digest_317 : decode cX6_digest 317 = .ok (.invokevirtual 321, 3) := by decide +kernel
theorem dX6_digest_320 : decode cX6_digest 320 = .ok (.i2l, 1) := by decide +kernel
theorem dX6_digest_321 : decode cX6_digest 321 = .ok (.ladd, 1) := by decide +kernel
theorem dX6_digest_322 : decode cX6_digest 322 = .ok (.lreturn, 1) := by decide +kernel
