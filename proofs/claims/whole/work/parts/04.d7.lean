theorem dX7_init_0 : decode cX7_init 0 = .ok (.aload_n 0, 1) := by decide +kernel
theorem dX7_init_1 : decode cX7_init 1 = .ok (.invokespecial 1, 3) := by decide +kernel
theorem dX7_init_4 : decode cX7_init 4 = .ok (.aload_n 0, 1) := by decide +kernel
theorem dX7_init_5 : decode cX7_init 5 = .ok (.bipush 27, 2) := by decide +kernel
theorem dX7_init_7 : decode cX7_init 7 = .ok (.newarray .int, 2) := by decide +kernel
theorem dX7_init_9 : decode cX7_init 9 = .ok (.putfield 7, 3) := by decide +kernel
theorem dX7_init_12 : decode cX7_init 12 = .ok (.aload_n 0, 1) := by decide +kernel
theorem dX7_init_13 : decode cX7_init 13 = .ok (.bipush 27, 2) := by decide +kernel
theorem dX7_init_15 : decode cX7_init 15 = .ok (.newarray .int, 2) := by decide +kernel
theorem dX7_init_17 : decode cX7_init 17 = .ok (.putfield 13, 3) := by decide +kernel
theorem dX7_init_20 : decode cX7_init 20 = .ok (.aload_n 0, 1) := by decide +kernel
theorem dX7_init_21 : decode cX7_init 21 = .ok (.bipush 27, 2) := by decide +kernel
theorem dX7_init_23 : decode cX7_init 23 = .ok (.newarray .int, 2) := by decide +kernel
theorem dX7_init_25 : decode cX7_init 25 = .ok (.putfield 16, 3) := by decide +kernel
theorem dX7_init_28 : decode cX7_init 28 = .ok (.aload_n 0, 1) := by decide +kernel
theorem dX7_init_29 : decode cX7_init 29 = .ok (.iconst 2, 1) := by decide +kernel
theorem dX7_init_30 : decode cX7_init 30 = .ok (.putfield 19, 3) := by decide +kernel
theorem dX7_init_33 : decode cX7_init 33 = .ok (.aload_n 0, 1) := by decide +kernel
theorem dX7_init_34 : decode cX7_init 34 = .ok (.iconst 2, 1) := by decide +kernel
theorem dX7_init_35 : decode cX7_init 35 = .ok (.putfield 23, 3) := by decide +kernel
theorem dX7_init_38 : decode cX7_init 38 = .ok (.aload_n 0, 1) := by decide +kernel
theorem dX7_init_39 : decode cX7_init 39 = .ok (.iconst 1, 1) := by decide +kernel
theorem dX7_init_40 : decode cX7_init 40 = .ok (.putfield 26, 3) := by decide +kernel
theorem dX7_init_43 : decode cX7_init 43 = .ok (.aload_n 0, 1) := by decide +kernel
theorem dX7_init_44 : decode cX7_init 44 = .ok (.bipush 6, 2) := by decide +kernel
theorem dX7_init_46 : decode cX7_init 46 = .ok (.newarray .int, 2) := by decide +kernel
theorem dX7_init_48 : decode cX7_init 48 = .ok (.putfield 29, 3) := by decide +kernel
theorem dX7_init_51 : decode cX7_init 51 = .ok (.aload_n 0, 1) := by decide +kernel
theorem dX7_init_52 : decode cX7_init 52 = .ok (.bipush 6, 2) := by decide +kernel
theorem dX7_init_54 : decode cX7_init 54 = .ok (.newarray .int, 2) := by decide +kernel
theorem dX7_init_56 : decode cX7_init 56 = .ok (.putfield 32, 3) := by decide +kernel
theorem dX7_init_59 : decode cX7_init 59 = .ok (.aload_n 0, 1) := by decide +kernel
theorem dX7_init_60 : decode cX7_init 60 = .ok (.bipush 6, 2) := by decide +kernel
theorem dX7_init_62 : decode cX7_init 62 = .ok (.newarray .int, 2) := by decide +kernel
theorem dX7_init_64 : decode cX7_init 64 = .ok (.putfield 35, 3) := by decide +kernel
theorem dX7_init_67 : decode cX7_init 67 = .ok (.aload_n 0, 1) := by decide +kernel
theorem dX7_init_68 : decode cX7_init 68 = .ok (.bipush 6, 2) := by decide +kernel
theorem dX7_init_70 : decode cX7_init 70 = .ok (.newarray .int, 2) := by decide +kernel
theorem dX7_init_72 : decode cX7_init 72 = .ok (.putfield 38, 3) := by decide +kernel
theorem dX7_init_75 : decode cX7_init 75 = .ok (.aload_n 0, 1) := by decide +kernel
theorem dX7_init_76 : decode cX7_init 76 = .ok (.sipush 200, 3) := by decide +kernel
theorem dX7_init_79 : decode cX7_init 79 = .ok (.newarray .byte, 2) := by decide +kernel
theorem dX7_init_81 : decode cX7_init 81 = .ok (.putfield 41, 3) := by decide +kernel
theorem dX7_init_84 : decode cX7_init 84 = .ok (.aload_n 0, 1) := by decide +kernel
theorem dX7_init_85 : decode cX7_init 85 = .ok (.bipush 9, 2) := by decide +kernel
theorem dX7_init_87 : decode cX7_init 87 = .ok (.newarray .int, 2) := by decide +kernel
theorem dX7_init_89 : decode cX7_init 89 = .ok (.putfield 45, 3) := by decide +kernel
theorem dX7_init_92 : decode cX7_init 92 = .ok (.aload_n 0, 1) := by decide +kernel
theorem dX7_init_93 : decode cX7_init 93 = .ok (.bipush 72, 2) := by decide +kernel
theorem dX7_init_95 : decode cX7_init 95 = .ok (.newarray .long, 2) := by decide +kernel
theorem dX7_init_97 : decode cX7_init 97 = .ok (.putfield 48, 3) := by decide +kernel
theorem dX7_init_100 : decode cX7_init 100 = .ok (.aload_n 0, 1) := by decide +kernel
theorem dX7_init_101 : decode cX7_init 101 = .ok (.bipush 9, 2) := by decide +kernel
theorem dX7_init_103 : decode cX7_init 103 = .ok (.newarray .int, 2) := by decide +kernel
theorem dX7_init_105 : decode cX7_init 105 = .ok (.putfield 52, 3) := by decide +kernel
theorem dX7_init_108 : decode cX7_init 108 = .ok (.aload_n 0, 1) := by decide +kernel
theorem dX7_init_109 : decode cX7_init 109 = .ok (.bipush 9, 2) := by decide +kernel
theorem dX7_init_111 : decode cX7_init 111 = .ok (.newarray .int, 2) := by decide +kernel
theorem dX7_init_113 : decode cX7_init 113 = .ok (.putfield 55, 3) := by decide +kernel
theorem dX7_init_116 : decode cX7_init 116 = .ok (.aload_n 0, 1) := by decide +kernel
theorem dX7_init_117 : decode cX7_init 117 = .ok (.bipush 63, 2) := by decide +kernel
theorem dX7_init_119 : decode cX7_init 119 = .ok (.newarray .long, 2) := by decide +kernel
theorem dX7_init_121 : decode cX7_init 121 = .ok (.putfield 58, 3) := by decide +kernel
theorem dX7_init_124 : decode cX7_init 124 = .ok (.aload_n 0, 1) := by decide +kernel
theorem dX7_init_125 : decode cX7_init 125 = .ok (.bipush 9, 2) := by decide +kernel
theorem dX7_init_127 : decode cX7_init 127 = .ok (.newarray .long, 2) := by decide +kernel
theorem dX7_init_129 : decode cX7_init 129 = .ok (.putfield 61, 3) := by decide +kernel
theorem dX7_init_132 : decode cX7_init 132 = .ok (.aload_n 0, 1) := by decide +kernel
theorem dX7_init_133 : decode cX7_init 133 = .ok (.bipush 9, 2) := by decide +kernel
theorem dX7_init_135 : decode cX7_init 135 = .ok (.newarray .int, 2) := by decide +kernel
theorem dX7_init_137 : decode cX7_init 137 = .ok (.putfield 64, 3) := by decide +kernel
theorem dX7_init_140 : decode cX7_init 140 = .ok (.aload_n 0, 1) := by decide +kernel
theorem dX7_init_141 : decode cX7_init 141 = .ok (.iconst 4, 1) := by decide +kernel
theorem dX7_init_142 : decode cX7_init 142 = .ok (.newarray .int, 2) := by decide +kernel
theorem dX7_init_144 : decode cX7_init 144 = .ok (.dup, 1) := by decide +kernel
theorem dX7_init_145 : decode cX7_init 145 = .ok (.iconst 0, 1) := by decide +kernel
theorem dX7_init_146 : decode cX7_init 146 = .ok (.iconst (-1), 1) := by decide +kernel
theorem dX7_init_147 : decode cX7_init 147 = .ok (.iastore, 1) := by decide +kernel
theorem dX7_init_148 : decode cX7_init 148 = .ok (.dup, 1) := by decide +kernel
theorem dX7_init_149 : decode cX7_init 149 = .ok (.iconst 1, 1) := by decide +kernel
theorem dX7_init_150 : decode cX7_init 150 = .ok (.iconst (-1), 1) := by decide +kernel
theorem dX7_init_151 : decode cX7_init 151 = .ok (.iastore, 1) := by decide +kernel
theorem dX7_init_152 : decode cX7_init 152 = .ok (.dup, 1) := by decide +kernel
theorem dX7_init_153 : decode cX7_init 153 = .ok (.iconst 2, 1) := by decide +kernel
theorem dX7_init_154 : decode cX7_init 154 = .ok (.iconst (-1), 1) := by decide +kernel
theorem dX7_init_155 : decode cX7_init 155 = .ok (.iastore, 1) := by decide +kernel
theorem dX7_init_156 : decode cX7_init 156 = .ok (.dup, 1) := by decide +kernel
theorem dX7_init_157 : decode cX7_init 157 = .ok (.iconst 3, 1) := by decide +kernel
theorem dX7_init_158 : decode cX7_init 158 = .ok (.iconst (-1), 1) := by decide +kernel
theorem dX7_init_159 : decode cX7_init 159 = .ok (.iastore, 1) := by decide +kernel
theorem dX7_init_160 : decode cX7_init 160 = .ok (.putfield 67, 3) := by decide +kernel
theorem dX7_init_163 : decode cX7_init 163 = .ok (.aload_n 0, 1) := by decide +kernel
theorem dX7_init_164 : decode cX7_init 164 = .ok (.iconst 4, 1) := by decide +kernel
theorem dX7_init_165 : decode cX7_init 165 = .ok (.newarray .int, 2) := by decide +kernel
theorem dX7_init_167 : decode cX7_init 167 = .ok (.putfield 70, 3) := by decide +kernel
theorem dX7_init_170 : decode cX7_init 170 = .ok (.aload_n 0, 1) := by decide +kernel
theorem dX7_init_171 : decode cX7_init 171 = .ok (.sipush 160, 3) := by decide +kernel
theorem dX7_init_174 : decode cX7_init 174 = .ok (.newarray .long, 2) := by decide +kernel
theorem dX7_init_176 : decode cX7_init 176 = .ok (.putfield 73, 3) := by decide +kernel
theorem dX7_init_179 : decode cX7_init 179 = .ok (.aload_n 0, 1) := by decide +kernel
theorem dX7_init_180 : decode cX7_init 180 = .ok (.bipush 40, 2) := by decide +kernel
theorem dX7_init_182 : decode cX7_init 182 = .ok (.newarray .long, 2) := by decide +kernel
theorem dX7_init_184 : decode cX7_init 184 = .ok (.putfield 76, 3) := by decide +kernel
theorem dX7_init_187 : decode cX7_init 187 = .ok (.aload_n 0, 1) := by decide +kernel
theorem dX7_init_188 : decode cX7_init 188 = .ok (.iconst 4, 1) := by decide +kernel
theorem dX7_init_189 : decode cX7_init 189 = .ok (.newarray .int, 2) := by decide +kernel
theorem dX7_init_191 : decode cX7_init 191 = .ok (.dup, 1) := by decide +kernel
theorem dX7_init_192 : decode cX7_init 192 = .ok (.iconst 0, 1) := by decide +kernel
theorem dX7_init_193 : decode cX7_init 193 = .ok (.iconst 2, 1) := by decide +kernel
theorem dX7_init_194 : decode cX7_init 194 = .ok (.iastore, 1) := by decide +kernel
theorem dX7_init_195 : decode cX7_init 195 = .ok (.dup, 1) := by decide +kernel
theorem dX7_init_196 : decode cX7_init 196 = .ok (.iconst 1, 1) := by decide +kernel
theorem dX7_init_197 : decode cX7_init 197 = .ok (.iconst 2, 1) := by decide +kernel
theorem dX7_init_198 : decode cX7_init 198 = .ok (.iastore, 1) := by decide +kernel
theorem dX7_init_199 : decode cX7_init 199 = .ok (.dup, 1) := by decide +kernel
theorem dX7_init_200 : decode cX7_init 200 = .ok (.iconst 2, 1) := by decide +kernel
theorem dX7_init_201 : decode cX7_init 201 = .ok (.iconst 2, 1) := by decide +kernel
theorem dX7_init_202 : decode cX7_init 202 = .ok (.iastore, 1) := by decide +kernel
theorem dX7_init_203 : decode cX7_init 203 = .ok (.dup, 1) := by decide +kernel
theorem dX7_init_204 : decode cX7_init 204 = .ok (.iconst 3, 1) := by decide +kernel
theorem dX7_init_205 : decode cX7_init 205 = .ok (.iconst 2, 1) := by decide +kernel
theorem dX7_init_206 : decode cX7_init 206 = .ok (.iastore, 1) := by decide +kernel
theorem dX7_init_207 : decode cX7_init 207 = .ok (.putfield 79, 3) := by decide +kernel
theorem dX7_init_210 : decode cX7_init 210 = .ok (.aload_n 0, 1) := by decide +kernel
theorem dX7_init_211 : decode cX7_init 211 = .ok (.iconst 4, 1) := by decide +kernel
theorem dX7_init_212 : decode cX7_init 212 = .ok (.newarray .int, 2) := by decide +kernel
theorem dX7_init_214 : decode cX7_init 214 = .ok (.putfield 82, 3) := by decide +kernel
theorem dX7_init_217 : decode cX7_init 217 = .ok (.aload_n 0, 1) := by decide +kernel
theorem dX7_init_218 : decode cX7_init 218 = .ok (.iconst 4, 1) := by decide +kernel
theorem dX7_init_219 : decode cX7_init 219 = .ok (.newarray .int, 2) := by decide +kernel
theorem dX7_init_221 : decode cX7_init 221 = .ok (.putfield 85, 3) := by decide +kernel
theorem dX7_init_224 : decode cX7_init 224 = .ok (.aload_n 0, 1) := by decide +kernel
theorem dX7_init_225 : decode cX7_init 225 = .ok (.bipush 30, 2) := by decide +kernel
theorem dX7_init_227 : decode cX7_init 227 = .ok (.newarray .int, 2) := by decide +kernel
theorem dX7_init_229 : decode cX7_init 229 = .ok (.putfield 88, 3) := by decide +kernel
theorem dX7_init_232 : decode cX7_init 232 = .ok (.aload_n 0, 1) := by decide +kernel
theorem dX7_init_233 : decode cX7_init 233 = .ok (.iconst 2, 1) := by decide +kernel
theorem dX7_init_234 : decode cX7_init 234 = .ok (.putfield 19, 3) := by decide +kernel
theorem dX7_init_237 : decode cX7_init 237 = .ok (.return_, 1) := by decide +kernel
theorem dX7_in_0 : decode cX7_in 0 = .ok (.lload_n 0, 1) := by decide +kernel
theorem dX7_in_1 : decode cX7_in 1 = .ok (.lload_n 2, 1) := by decide +kernel
theorem dX7_in_2 : decode cX7_in 2 = .ok (.lcmp, 1) := by decide +kernel
theorem dX7_in_3 : decode cX7_in 3 = .ok (.ifCond .lt 14, 3) := by decide +kernel
theorem dX7_in_6 : decode cX7_in 6 = .ok (.lload_n 0, 1) := by decide +kernel
theorem dX7_in_7 : decode cX7_in 7 = .ok (.lload 4, 2) := by decide +kernel
theorem dX7_in_9 : decode cX7_in 9 = .ok (.lcmp, 1) := by decide +kernel
theorem dX7_in_10 : decode cX7_in 10 = .ok (.ifCond .gt 7, 3) := by decide +kernel
theorem dX7_in_13 : decode cX7_in 13 = .ok (.iconst 1, 1) := by decide +kernel
theorem dX7_in_14 : decode cX7_in 14 = .ok (.goto 4, 3) := by decide +kernel
theorem dX7_in_17 : decode cX7_in 17 = .ok (.iconst 0, 1) := by decide +kernel
theorem dX7_in_18 : decode cX7_in 18 = .ok (.ireturn, 1) := by decide +kernel
theorem dX7_told_0 : decode cX7_told 0 = .ok (.iload_n 0, 1) := by decide +kernel
theorem dX7_told_1 : decode cX7_told 1 = .ok (.i2l, 1) := by decide +kernel
theorem dX7_told_2 : decode cX7_told 2 = .ok (.ldc2_w 91, 3) := by decide +kernel
theorem dX7_told_5 : decode cX7_told 5 = .ok (.lsub, 1) := by decide +kernel
theorem dX7_told_6 : decode cX7_told 6 = .ok (.lreturn, 1) := by decide +kernel
theorem dX7_common_0 : decode cX7_common 0 = .ok (.lload_n 0, 1) := by decide +kernel
theorem dX7_common_1 : decode cX7_common 1 = .ok (.lconst 0, 1) := by decide +kernel
theorem dX7_common_2 : decode cX7_common 2 = .ok (.lcmp, 1) := by decide +kernel
theorem dX7_common_3 : decode cX7_common 3 = .ok (.ifCond .ge 8, 3) := by decide +kernel
theorem dX7_common_6 : decode cX7_common 6 = .ok (.lload_n 0, 1) := by decide +kernel
theorem dX7_common_7 : decode cX7_common 7 = .ok (.lneg, 1) := by decide +kernel
theorem dX7_common_8 : decode cX7_common 8 = .ok (.goto 4, 3) := by decide +kernel
theorem dX7_common_11 : decode cX7_common 11 = .ok (.lload_n 0, 1) := by decide +kernel
theorem dX7_common_12 : decode cX7_common 12 = .ok (.lstore 4, 2) := by decide +kernel
theorem dX7_common_14 : decode cX7_common 14 = .ok (.lload_n 2, 1) := by decide +kernel
theorem dX7_common_15 : decode cX7_common 15 = .ok (.lconst 0, 1) := by decide +kernel
theorem dX7_common_16 : decode cX7_common 16 = .ok (.lcmp, 1) := by decide +kernel
theorem dX7_common_17 : decode cX7_common 17 = .ok (.ifCond .ge 8, 3) := by decide +kernel
theorem dX7_common_20 : decode cX7_common 20 = .ok (.lload_n 2, 1) := by decide +kernel
theorem dX7_common_21 : decode cX7_common 21 = .ok (.lneg, 1) := by decide +kernel
theorem dX7_common_22 : decode cX7_common 22 = .ok (.goto 4, 3) := by decide +kernel
theorem dX7_common_25 : decode cX7_common 25 = .ok (.lload_n 2, 1) := by decide +kernel
theorem dX7_common_26 : decode cX7_common 26 = .ok (.lstore 6, 2) := by decide +kernel
theorem dX7_common_28 : decode cX7_common 28 = .ok (.lload 6, 2) := by decide +kernel
theorem dX7_common_30 : decode cX7_common 30 = .ok (.lconst 0, 1) := by decide +kernel
theorem dX7_common_31 : decode cX7_common 31 = .ok (.lcmp, 1) := by decide +kernel
theorem dX7_common_32 : decode cX7_common 32 = .ok (.ifCond .eq 21, 3) := by decide +kernel
theorem dX7_common_35 : decode cX7_common 35 = .ok (.lload 4, 2) := by decide +kernel
theorem dX7_common_37 : decode cX7_common 37 = .ok (.lload 6, 2) := by decide +kernel
theorem dX7_common_39 : decode cX7_common 39 = .ok (.lrem, 1) := by decide +kernel
theorem dX7_common_40 : decode cX7_common 40 = .ok (.lstore 8, 2) := by decide +kernel
theorem dX7_common_42 : decode cX7_common 42 = .ok (.lload 6, 2) := by decide +kernel
theorem dX7_common_44 : decode cX7_common 44 = .ok (.lstore 4, 2) := by decide +kernel
theorem dX7_common_46 : decode cX7_common 46 = .ok (.lload 8, 2) := by decide +kernel
theorem dX7_common_48 : decode cX7_common 48 = .ok (.lstore 6, 2) := by decide +kernel
theorem dX7_common_50 : decode cX7_common 50 = .ok (.goto (-22), 3) := by decide +kernel
theorem dX7_common_53 : decode cX7_common 53 = .ok (.lload 4, 2) := by decide +kernel
theorem dX7_common_55 : decode cX7_common 55 = .ok (.lreturn, 1) := by decide +kernel
theorem dX7_partOf_0 : decode cX7_partOf 0 = .ok (.lload_n 2, 1) := by decide +kernel
theorem dX7_partOf_1 : decode cX7_partOf 1 = .ok (.lconst 0, 1) := by decide +kernel
theorem dX7_partOf_2 : decode cX7_partOf 2 = .ok (.lcmp, 1) := by decide +kernel
theorem dX7_partOf_3 : decode cX7_partOf 3 = .ok (.ifCond .ge 12, 3) := by decide +kernel
theorem dX7_partOf_6 : decode cX7_partOf 6 = .ok (.lload_n 0, 1) := by decide +kernel
theorem dX7_partOf_7 : decode cX7_partOf 7 = .ok (.lload_n 2, 1) := by decide +kernel
theorem dX7_partOf_8 : decode cX7_partOf 8 = .ok (.invokestatic 93, 3) := by decide +kernel
theorem dX7_partOf_11 : decode cX7_partOf 11 = .ok (.lneg, 1) := by decide +kernel
theorem dX7_partOf_12 : decode cX7_partOf 12 = .ok (.goto 8, 3) := by decide +kernel
theorem dX7_partOf_15 : decode cX7_partOf 15 = .ok (.lload_n 0, 1) := by decide +kernel
theorem dX7_partOf_16 : decode cX7_partOf 16 = .ok (.lload_n 2, 1) := by decide +kernel
theorem dX7_partOf_17 : decode cX7_partOf 17 = .ok (.invokestatic 93, 3) := by decide +kernel
theorem dX7_partOf_20 : decode cX7_partOf 20 = .ok (.lstore 5, 2) := by decide +kernel
theorem dX7_partOf_22 : decode cX7_partOf 22 = .ok (.iload 4, 2) := by decide +kernel
theorem dX7_partOf_24 : decode cX7_partOf 24 = .ok (.ifCond .ne 10, 3) := by decide +kernel
theorem dX7_partOf_27 : decode cX7_partOf 27 = .ok (.lload_n 0, 1) := by decide +kernel
theorem dX7_partOf_28 : decode cX7_partOf 28 = .ok (.lload 5, 2) := by decide +kernel
theorem dX7_partOf_30 : decode cX7_partOf 30 = .ok (.ldiv, 1) := by decide +kernel
theorem dX7_partOf_31 : decode cX7_partOf 31 = .ok (.goto 7, 3) := by decide +kernel
theorem dX7_partOf_34 : decode cX7_partOf 34 = .ok (.lload_n 2, 1) := by decide +kernel
theorem dX7_partOf_35 : decode cX7_partOf 35 = .ok (.lload 5, 2) := by decide +kernel
theorem dX7_partOf_37 : decode cX7_partOf 37 = .ok (.ldiv, 1) := by decide +kernel
theorem dX7_partOf_38 : decode cX7_partOf 38 = .ok (.lreturn, 1) := by decide +kernel
theorem dX7_rowsOf_0 : decode cX7_rowsOf 0 = .ok (.iload_n 1, 1) := by decide +kernel
theorem dX7_rowsOf_1 : decode cX7_rowsOf 1 = .ok (.iconst 1, 1) := by decide +kernel
theorem dX7_rowsOf_2 : decode cX7_rowsOf 2 = .ok (.if_icmp .ne 10, 3) := by decide +kernel
theorem dX7_rowsOf_5 : decode cX7_rowsOf 5 = .ok (.aload_n 0, 1) := by decide +kernel
theorem dX7_rowsOf_6 : decode cX7_rowsOf 6 = .ok (.getfield 23, 3) := by decide +kernel
theorem dX7_rowsOf_9 : decode cX7_rowsOf 9 = .ok (.goto 7, 3) := by decide +kernel
theorem dX7_rowsOf_12 : decode cX7_rowsOf 12 = .ok (.aload_n 0, 1) := by decide +kernel
theorem dX7_rowsOf_13 : decode cX7_rowsOf 13 = .ok (.getfield 19, 3) := by decide +kernel
theorem dX7_rowsOf_16 : decode cX7_rowsOf 16 = .ok (.ireturn, 1) := by decide +kernel
theorem dX7_columnsOf_0 : decode cX7_columnsOf 0 = .ok (.iload_n 1, 1) := by decide +kernel
theorem dX7_columnsOf_1 : decode cX7_columnsOf 1 = .ok (.ifCond .ne 10, 3) := by decide +kernel
theorem dX7_columnsOf_4 : decode cX7_columnsOf 4 = .ok (.aload_n 0, 1) := by decide +kernel
theorem dX7_columnsOf_5 : decode cX7_columnsOf 5 = .ok (.getfield 19, 3) := by decide +kernel
theorem dX7_columnsOf_8 : decode cX7_columnsOf 8 = .ok (.goto 7, 3) := by decide +kernel
theorem dX7_columnsOf_11 : decode cX7_columnsOf 11 = .ok (.aload_n 0, 1) := by decide +kernel
theorem dX7_columnsOf_12 : decode cX7_columnsOf 12 = .ok (.getfield 23, 3) := by decide +kernel
theorem dX7_columnsOf_15 : decode cX7_columnsOf 15 = .ok (.ireturn, 1) := by decide +kernel
theorem dX7_its_0 : decode cX7_its 0 = .ok (.aload_n 0, 1) := by decide +kernel
theorem dX7_its_1 : decode cX7_its 1 = .ok (.getfield 7, 3) := by decide +kernel
theorem dX7_its_4 : decode cX7_its 4 = .ok (.bipush 9, 2) := by decide +kernel
theorem dX7_its_6 : decode cX7_its 6 = .ok (.iload_n 1, 1) := by decide +kernel
theorem dX7_its_7 : decode cX7_its 7 = .ok (.imul, 1) := by decide +kernel
theorem dX7_its_8 : decode cX7_its 8 = .ok (.iconst 3, 1) := by decide +kernel
theorem dX7_its_9 : decode cX7_its 9 = .ok (.iload_n 2, 1) := by decide +kernel
theorem dX7_its_10 : decode cX7_its 10 = .ok (.imul, 1) := by decide +kernel
theorem dX7_its_11 : decode cX7_its 11 = .ok (.iadd, 1) := by decide +kernel
theorem dX7_its_12 : decode cX7_its 12 = .ok (.iload_n 3, 1) := by decide +kernel
theorem dX7_its_13 : decode cX7_its 13 = .ok (.iadd, 1) := by decide +kernel
theorem dX7_its_14 : decode cX7_its 14 = .ok (.iaload, 1) := by decide +kernel
theorem dX7_its_15 : decode cX7_its 15 = .ok (.ireturn, 1) := by decide +kernel
theorem dX7_isPlace_0 : decode cX7_isPlace 0 = .ok (.iload_n 1, 1) := by decide +kernel
theorem dX7_isPlace_1 : decode cX7_isPlace 1 = .ok (.i2l, 1) := by decide +kernel
theorem dX7_isPlace_2 : decode cX7_isPlace 2 = .ok (.lconst 0, 1) := by decide +kernel
theorem dX7_isPlace_3 : decode cX7_isPlace 3 = .ok (.ldc2_w 97, 3) := by decide +kernel
theorem dX7_isPlace_6 : decode cX7_isPlace 6 = .ok (.invokestatic 99, 3) := by decide +kernel
theorem dX7_isPlace_9 : decode cX7_isPlace 9 = .ok (.ifCond .eq 41, 3) := by decide +kernel
theorem dX7_isPlace_12 : decode cX7_isPlace 12 = .ok (.iload_n 2, 1) := by decide +kernel
theorem dX7_isPlace_13 : decode cX7_isPlace 13 = .ok (.i2l, 1) := by decide +kernel
theorem dX7_isPlace_14 : decode cX7_isPlace 14 = .ok (.lconst 0, 1) := by decide +kernel
theorem dX7_isPlace_15 : decode cX7_isPlace 15 = .ok (.aload_n 0, 1) := by decide +kernel
theorem dX7_isPlace_16 : decode cX7_isPlace 16 = .ok (.iload_n 1, 1) := by decide +kernel
theorem dX7_isPlace_17 : decode cX7_isPlace 17 = .ok (.invokevirtual 103, 3) := by decide +kernel
theorem dX7_isPlace_20 : decode cX7_isPlace 20 = .ok (.iconst 1, 1) := by decide +kernel
theorem dX7_isPlace_21 : decode cX7_isPlace 21 = .ok (.isub, 1) := by decide +kernel
theorem dX7_isPlace_22 : decode cX7_isPlace 22 = .ok (.i2l, 1) := by decide +kernel
theorem dX7_isPlace_23 : decode cX7_isPlace 23 = .ok (.invokestatic 99, 3) := by decide +kernel
theorem dX7_isPlace_26 : decode cX7_isPlace 26 = .ok (.ifCond .eq 24, 3) := by decide +kernel
theorem dX7_isPlace_29 : decode cX7_isPlace 29 = .ok (.iload_n 3, 1) := by decide +kernel
theorem dX7_isPlace_30 : decode cX7_isPlace 30 = .ok (.i2l, 1) := by decide +kernel
theorem dX7_isPlace_31 : decode cX7_isPlace 31 = .ok (.lconst 0, 1) := by decide +kernel
theorem dX7_isPlace_32 : decode cX7_isPlace 32 = .ok (.aload_n 0, 1) := by decide +kernel
theorem dX7_isPlace_33 : decode cX7_isPlace 33 = .ok (.iload_n 1, 1) := by decide +kernel
theorem dX7_isPlace_34 : decode cX7_isPlace 34 = .ok (.invokevirtual 107, 3) := by decide +kernel
theorem dX7_isPlace_37 : decode cX7_isPlace 37 = .ok (.iconst 1, 1) := by decide +kernel
theorem dX7_isPlace_38 : decode cX7_isPlace 38 = .ok (.isub, 1) := by decide +kernel
theorem dX7_isPlace_39 : decode cX7_isPlace 39 = .ok (.i2l, 1) := by decide +kernel
theorem dX7_isPlace_40 : decode cX7_isPlace 40 = .ok (.invokestatic 99, 3) := by decide +kernel
theorem dX7_isPlace_43 : decode cX7_isPlace 43 = .ok (.ifCond .eq 7, 3) := by decide +kernel
theorem dX7_isPlace_46 : decode cX7_isPlace 46 = .ok (.iconst 1, 1) := by decide +kernel
theorem dX7_isPlace_47 : decode cX7_isPlace 47 = .ok (.goto 4, 3) := by decide +kernel
theorem dX7_isPlace_50 : decode cX7_isPlace 50 = .ok (.iconst 0, 1) := by decide +kernel
theorem dX7_isPlace_51 : decode cX7_isPlace 51 = .ok (.ireturn, 1) := by decide +kernel
theorem dX7_isEntry_0 : decode cX7_isEntry 0 = .ok (.iload_n 0, 1) := by decide +kernel
theorem dX7_isEntry_1 : decode cX7_isEntry 1 = .ok (.iconst 2, 1) := by decide +kernel
theorem dX7_isEntry_2 : decode cX7_isEntry 2 = .ok (.if_icmp .ne 17, 3) := by decide +kernel
theorem dX7_isEntry_5 : decode cX7_isEntry 5 = .ok (.iload_n 1, 1) := by decide +kernel
theorem dX7_isEntry_6 : decode cX7_isEntry 6 = .ok (.i2l, 1) := by decide +kernel
theorem dX7_isEntry_7 : decode cX7_isEntry 7 = .ok (.ldc2_w 110, 3) := by decide +kernel
theorem dX7_isEntry_10 : decode cX7_isEntry 10 = .ok (.ldc2_w 112, 3) := by decide +kernel
theorem dX7_isEntry_13 : decode cX7_isEntry 13 = .ok (.invokestatic 99, 3) := by decide +kernel
theorem dX7_isEntry_16 : decode cX7_isEntry 16 = .ok (.goto 14, 3) := by decide +kernel
theorem dX7_isEntry_19 : decode cX7_isEntry 19 = .ok (.iload_n 1, 1) := by decide +kernel
theorem dX7_isEntry_20 : decode cX7_isEntry 20 = .ok (.i2l, 1) := by decide +kernel
theorem dX7_isEntry_21 : decode cX7_isEntry 21 = .ok (.ldc2_w 114, 3) := by decide +kernel
theorem dX7_isEntry_24 : decode cX7_isEntry 24 = .ok (.ldc2_w 116, 3) := by decide +kernel
theorem dX7_isEntry_27 : decode cX7_isEntry 27 = .ok (.invokestatic 99, 3) := by decide +kernel
theorem dX7_isEntry_30 : decode cX7_isEntry 30 = .ok (.ireturn, 1) := by decide +kernel
theorem dX7_size_0 : decode cX7_size 0 = .ok (.iload_n 1, 1) := by decide +kernel
theorem dX7_size_1 : decode cX7_size 1 = .ok (.i2l, 1) := by decide +kernel
theorem dX7_size_2 : decode cX7_size 2 = .ok (.lconst 1, 1) := by decide +kernel
theorem dX7_size_3 : decode cX7_size 3 = .ok (.ldc2_w 118, 3) := by decide +kernel
theorem dX7_size_6 : decode cX7_size 6 = .ok (.invokestatic 99, 3) := by decide +kernel
theorem dX7_size_9 : decode cX7_size 9 = .ok (.ifCond .eq 15, 3) := by decide +kernel
theorem dX7_size_12 : decode cX7_size 12 = .ok (.iload_n 2, 1) := by decide +kernel
theorem dX7_size_13 : decode cX7_size 13 = .ok (.i2l, 1) := by decide +kernel
theorem dX7_size_14 : decode cX7_size 14 = .ok (.lconst 1, 1) := by decide +kernel
theorem dX7_size_15 : decode cX7_size 15 = .ok (.ldc2_w 118, 3) := by decide +kernel
theorem dX7_size_18 : decode cX7_size 18 = .ok (.invokestatic 99, 3) := by decide +kernel
theorem dX7_size_21 : decode cX7_size 21 = .ok (.ifCond .ne 5, 3) := by decide +kernel
theorem dX7_size_24 : decode cX7_size 24 = .ok (.iconst (-1), 1) := by decide +kernel
theorem dX7_size_25 : decode cX7_size 25 = .ok (.ireturn, 1) := by decide +kernel
theorem dX7_size_26 : decode cX7_size 26 = .ok (.bipush 10, 2) := by decide +kernel
theorem dX7_size_28 : decode cX7_size 28 = .ok (.aload_n 0, 1) := by decide +kernel
theorem dX7_size_29 : decode cX7_size 29 = .ok (.getfield 19, 3) := by decide +kernel
theorem dX7_size_32 : decode cX7_size 32 = .ok (.imul, 1) := by decide +kernel
theorem dX7_size_33 : decode cX7_size 33 = .ok (.aload_n 0, 1) := by decide +kernel
theorem dX7_size_34 : decode cX7_size 34 = .ok (.getfield 23, 3) := by decide +kernel
theorem dX7_size_37 : decode cX7_size 37 = .ok (.iadd, 1) := by decide +kernel
theorem dX7_size_38 : decode cX7_size 38 = .ok (.istore_n 3, 1) := by decide +kernel
theorem dX7_size_39 : decode cX7_size 39 = .ok (.aload_n 0, 1) := by decide +kernel
theorem dX7_size_40 : decode cX7_size 40 = .ok (.iload_n 1, 1) := by decide +kernel
theorem dX7_size_41 : decode cX7_size 41 = .ok (.putfield 19, 3) := by decide +kernel
theorem dX7_size_44 : decode cX7_size 44 = .ok (.aload_n 0, 1) := by decide +kernel
theorem dX7_size_45 : decode cX7_size 45 = .ok (.iload_n 2, 1) := by decide +kernel
theorem dX7_size_46 : decode cX7_size 46 = .ok (.putfield 23, 3) := by decide +kernel
theorem dX7_size_49 : decode cX7_size 49 = .ok (.iconst 0, 1) := by decide +kernel
theorem dX7_size_50 : decode cX7_size 50 = .ok (.istore 4, 2) := by decide +kernel
theorem dX7_size_52 : decode cX7_size 52 = .ok (.iload 4, 2) := by decide +kernel
theorem dX7_size_54 : decode cX7_size 54 = .ok (.bipush 27, 2) := by decide +kernel
theorem dX7_size_56 : decode cX7_size 56 = .ok (.if_icmp .ge 17, 3) := by decide +kernel
theorem dX7_size_59 : decode cX7_size 59 = .ok (.aload_n 0, 1) := by decide +kernel
theorem dX7_size_60 : decode cX7_size 60 = .ok (.getfield 7, 3) := by decide +kernel
theorem dX7_size_63 : decode cX7_size 63 = .ok (.iload 4, 2) := by decide +kernel
theorem dX7_size_65 : decode cX7_size 65 = .ok (.iconst 0, 1) := by decide +kernel
theorem dX7_size_66 : decode cX7_size 66 = .ok (.iastore, 1) := by decide +kernel
theorem dX7_size_67 : decode cX7_size 67 = .ok (.iinc 4 1, 3) := by decide +kernel
theorem dX7_size_70 : decode cX7_size 70 = .ok (.goto (-18), 3) := by decide +kernel
theorem dX7_size_73 : decode cX7_size 73 = .ok (.iload_n 3, 1) := by decide +kernel
theorem dX7_size_74 : decode cX7_size 74 = .ok (.ireturn, 1) := by decide +kernel
theorem dX7_set_0 : decode cX7_set 0 = .ok (.aload_n 0, 1) := by decide +kernel
theorem dX7_set_1 : decode cX7_set 1 = .ok (.iload_n 1, 1) := by decide +kernel
theorem dX7_set_2 : decode cX7_set 2 = .ok (.iload_n 2, 1) := by decide +kernel
theorem dX7_set_3 : decode cX7_set 3 = .ok (.iload_n 3, 1) := by decide +kernel
theorem dX7_set_4 : decode cX7_set 4 = .ok (.invokevirtual 120, 3) := by decide +kernel
theorem dX7_set_7 : decode cX7_set 7 = .ok (.ifCond .eq 12, 3) := by decide +kernel
theorem dX7_set_10 : decode cX7_set 10 = .ok (.iload_n 1, 1) := by decide +kernel
theorem dX7_set_11 : decode cX7_set 11 = .ok (.iload 4, 2) := by decide +kernel
theorem dX7_set_13 : decode cX7_set 13 = .ok (.invokestatic 124, 3) := by decide +kernel
theorem dX7_set_16 : decode cX7_set 16 = .ok (.ifCond .ne 5, 3) := by decide +kernel
theorem dX7_set_19 : decode cX7_set 19 = .ok (.iconst (-1), 1) := by decide +kernel
theorem dX7_set_20 : decode cX7_set 20 = .ok (.ireturn, 1) := by decide +kernel
theorem dX7_set_21 : decode cX7_set 21 = .ok (.aload_n 0, 1) := by decide +kernel
theorem dX7_set_22 : decode cX7_set 22 = .ok (.iload_n 1, 1) := by decide +kernel
theorem dX7_set_23 : decode cX7_set 23 = .ok (.iload_n 2, 1) := by decide +kernel
theorem dX7_set_24 : decode cX7_set 24 = .ok (.iload_n 3, 1) := by decide +kernel
theorem dX7_set_25 : decode cX7_set 25 = .ok (.invokevirtual 128, 3) := by decide +kernel
theorem dX7_set_28 : decode cX7_set 28 = .ok (.istore 5, 2) := by decide +kernel
theorem dX7_set_30 : decode cX7_set 30 = .ok (.aload_n 0, 1) := by decide +kernel
theorem dX7_set_31 : decode cX7_set 31 = .ok (.getfield 7, 3) := by decide +kernel
theorem dX7_set_34 : decode cX7_set 34 = .ok (.bipush 9, 2) := by decide +kernel
theorem dX7_set_36 : decode cX7_set 36 = .ok (.iload_n 1, 1) := by decide +kernel
theorem dX7_set_37 : decode cX7_set 37 = .ok (.imul, 1) := by decide +kernel
theorem dX7_set_38 : decode cX7_set 38 = .ok (.iconst 3, 1) := by decide +kernel
theorem dX7_set_39 : decode cX7_set 39 = .ok (.iload_n 2, 1) := by decide +kernel
theorem dX7_set_40 : decode cX7_set 40 = .ok (.imul, 1) := by decide +kernel
theorem dX7_set_41 : decode cX7_set 41 = .ok (.iadd, 1) := by decide +kernel
theorem dX7_set_42 : decode cX7_set 42 = .ok (.iload_n 3, 1) := by decide +kernel
theorem dX7_set_43 : decode cX7_set 43 = .ok (.iadd, 1) := by decide +kernel
theorem dX7_set_44 : decode cX7_set 44 = .ok (.iload 4, 2) := by decide +kernel
theorem dX7_set_46 : decode cX7_set 46 = .ok (.iastore, 1) := by decide +kernel
theorem dX7_set_47 : decode cX7_set 47 = .ok (.bipush 100, 2) := by decide +kernel
theorem dX7_set_49 : decode cX7_set 49 = .ok (.iload 5, 2) := by decide +kernel
theorem dX7_set_51 : decode cX7_set 51 = .ok (.iadd, 1) := by decide +kernel
theorem dX7_set_52 : decode cX7_set 52 = .ok (.ireturn, 1) := by decide +kernel
theorem dX7_at_0 : decode cX7_at 0 = .ok (.aload_n 0, 1) := by decide +kernel
theorem dX7_at_1 : decode cX7_at 1 = .ok (.iload_n 1, 1) := by decide +kernel
theorem dX7_at_2 : decode cX7_at 2 = .ok (.iload_n 2, 1) := by decide +kernel
theorem dX7_at_3 : decode cX7_at 3 = .ok (.iload_n 3, 1) := by decide +kernel
theorem dX7_at_4 : decode cX7_at 4 = .ok (.invokevirtual 120, 3) := by decide +kernel
theorem dX7_at_7 : decode cX7_at 7 = .ok (.ifCond .eq 16, 3) := by decide +kernel
theorem dX7_at_10 : decode cX7_at 10 = .ok (.bipush 100, 2) := by decide +kernel
theorem dX7_at_12 : decode cX7_at 12 = .ok (.aload_n 0, 1) := by decide +kernel
theorem dX7_at_13 : decode cX7_at 13 = .ok (.iload_n 1, 1) := by decide +kernel
theorem dX7_at_14 : decode cX7_at 14 = .ok (.iload_n 2, 1) := by decide +kernel
theorem dX7_at_15 : decode cX7_at 15 = .ok (.iload_n 3, 1) := by decide +kernel
theorem dX7_at_16 : decode cX7_at 16 = .ok (.invokevirtual 128, 3) := by decide +kernel
theorem dX7_at_19 : decode cX7_at 19 = .ok (.iadd, 1) := by decide +kernel
theorem dX7_at_20 : decode cX7_at 20 = .ok (.goto 4, 3) := by decide +kernel
theorem dX7_at_23 : decode cX7_at 23 = .ok (.iconst (-1), 1) := by decide +kernel
theorem dX7_at_24 : decode cX7_at 24 = .ok (.ireturn, 1) := by decide +kernel
theorem dX7_cross_0 : decode cX7_cross 0 = .ok (.aload_n 0, 1) := by decide +kernel
theorem dX7_cross_1 : decode cX7_cross 1 = .ok (.iload_n 1, 1) := by decide +kernel
theorem dX7_cross_2 : decode cX7_cross 2 = .ok (.iload_n 2, 1) := by decide +kernel
theorem dX7_cross_3 : decode cX7_cross 3 = .ok (.iload 4, 2) := by decide +kernel
theorem dX7_cross_5 : decode cX7_cross 5 = .ok (.invokevirtual 128, 3) := by decide +kernel
theorem dX7_cross_8 : decode cX7_cross 8 = .ok (.i2l, 1) := by decide +kernel
theorem dX7_cross_9 : decode cX7_cross 9 = .ok (.aload_n 0, 1) := by decide +kernel
theorem dX7_cross_10 : decode cX7_cross 10 = .ok (.iload_n 1, 1) := by decide +kernel
theorem dX7_cross_11 : decode cX7_cross 11 = .ok (.iload_n 3, 1) := by decide +kernel
theorem dX7_cross_12 : decode cX7_cross 12 = .ok (.iload 5, 2) := by decide +kernel
theorem dX7_cross_14 : decode cX7_cross 14 = .ok (.invokevirtual 128, 3) := by decide +kernel
theorem dX7_cross_17 : decode cX7_cross 17 = .ok (.i2l, 1) := by decide +kernel
theorem dX7_cross_18 : decode cX7_cross 18 = .ok (.lmul, 1) := by decide +kernel
theorem dX7_cross_19 : decode cX7_cross 19 = .ok (.aload_n 0, 1) := by decide +kernel
theorem dX7_cross_20 : decode cX7_cross 20 = .ok (.iload_n 1, 1) := by decide +kernel
theorem dX7_cross_21 : decode cX7_cross 21 = .ok (.iload_n 2, 1) := by decide +kernel
theorem dX7_cross_22 : decode cX7_cross 22 = .ok (.iload 5, 2) := by decide +kernel
theorem dX7_cross_24 : decode cX7_cross 24 = .ok (.invokevirtual 128, 3) := by decide +kernel
theorem dX7_cross_27 : decode cX7_cross 27 = .ok (.i2l, 1) := by decide +kernel
theorem dX7_cross_28 : decode cX7_cross 28 = .ok (.aload_n 0, 1) := by decide +kernel
theorem dX7_cross_29 : decode cX7_cross 29 = .ok (.iload_n 1, 1) := by decide +kernel
theorem dX7_cross_30 : decode cX7_cross 30 = .ok (.iload_n 3, 1) := by decide +kernel
theorem dX7_cross_31 : decode cX7_cross 31 = .ok (.iload 4, 2) := by decide +kernel
theorem dX7_cross_33 : decode cX7_cross 33 = .ok (.invokevirtual 128, 3) := by decide +kernel
theorem dX7_cross_36 : decode cX7_cross 36 = .ok (.i2l, 1) := by decide +kernel
theorem dX7_cross_37 : decode cX7_cross 37 = .ok (.lmul, 1) := by decide +kernel
theorem dX7_cross_38 : decode cX7_cross 38 = .ok (.lsub, 1) := by decide +kernel
theorem dX7_cross_39 : decode cX7_cross 39 = .ok (.lreturn, 1) := by decide +kernel
theorem dX7_detOf_0 : decode cX7_detOf 0 = .ok (.aload_n 0, 1) := by decide +kernel
theorem dX7_detOf_1 : decode cX7_detOf 1 = .ok (.iload_n 1, 1) := by decide +kernel
theorem dX7_detOf_2 : decode cX7_detOf 2 = .ok (.invokevirtual 103, 3) := by decide +kernel
theorem dX7_detOf_5 : decode cX7_detOf 5 = .ok (.istore_n 2, 1) := by decide +kernel
theorem dX7_detOf_6 : decode cX7_detOf 6 = .ok (.iload_n 2, 1) := by decide +kernel
theorem dX7_detOf_7 : decode cX7_detOf 7 = .ok (.iconst 1, 1) := by decide +kernel
theorem dX7_detOf_8 : decode cX7_detOf 8 = .ok (.if_icmp .ne 12, 3) := by decide +kernel
theorem dX7_detOf_11 : decode cX7_detOf 11 = .ok (.aload_n 0, 1) := by decide +kernel
theorem dX7_detOf_12 : decode cX7_detOf 12 = .ok (.iload_n 1, 1) := by decide +kernel
theorem dX7_detOf_13 : decode cX7_detOf 13 = .ok (.iconst 0, 1) := by decide +kernel
theorem dX7_detOf_14 : decode cX7_detOf 14 = .ok (.iconst 0, 1) := by decide +kernel
theorem dX7_detOf_15 : decode cX7_detOf 15 = .ok (.invokevirtual 128, 3) := by decide +kernel
theorem dX7_detOf_18 : decode cX7_detOf 18 = .ok (.i2l, 1) := by decide +kernel
theorem dX7_detOf_19 : decode cX7_detOf 19 = .ok (.lreturn, 1) := by decide +kernel
theorem dX7_detOf_20 : decode cX7_detOf 20 = .ok (.iload_n 2, 1) := by decide +kernel
theorem dX7_detOf_21 : decode cX7_detOf 21 = .ok (.iconst 2, 1) := by decide +kernel
theorem dX7_detOf_22 : decode cX7_detOf 22 = .ok (.if_icmp .ne 13, 3) := by decide +kernel
theorem dX7_detOf_25 : decode cX7_detOf 25 = .ok (.aload_n 0, 1) := by decide +kernel
theorem dX7_detOf_26 : decode cX7_detOf 26 = .ok (.iload_n 1, 1) := by decide +kernel
theorem dX7_detOf_27 : decode cX7_detOf 27 = .ok (.iconst 0, 1) := by decide +kernel
theorem dX7_detOf_28 : decode cX7_detOf 28 = .ok (.iconst 1, 1) := by decide +kernel
theorem dX7_detOf_29 : decode cX7_detOf 29 = .ok (.iconst 0, 1) := by decide +kernel
theorem dX7_detOf_30 : decode cX7_detOf 30 = .ok (.iconst 1, 1) := by decide +kernel
theorem dX7_detOf_31 : decode cX7_detOf 31 = .ok (.invokevirtual 132, 3) := by decide +kernel
theorem dX7_detOf_34 : decode cX7_detOf 34 = .ok (.lreturn, 1) := by decide +kernel
theorem dX7_detOf_35 : decode cX7_detOf 35 = .ok (.aload_n 0, 1) := by decide +kernel
theorem dX7_detOf_36 : decode cX7_detOf 36 = .ok (.iload_n 1, 1) := by decide +kernel
theorem dX7_detOf_37 : decode cX7_detOf 37 = .ok (.iconst 0, 1) := by decide +kernel
theorem dX7_detOf_38 : decode cX7_detOf 38 = .ok (.iconst 0, 1) := by decide +kernel
theorem dX7_detOf_39 : decode cX7_detOf 39 = .ok (.invokevirtual 128, 3) := by decide +kernel
theorem dX7_detOf_42 : decode cX7_detOf 42 = .ok (.i2l, 1) := by decide +kernel
theorem dX7_detOf_43 : decode cX7_detOf 43 = .ok (.aload_n 0, 1) := by decide +kernel
theorem dX7_detOf_44 : decode cX7_detOf 44 = .ok (.iload_n 1, 1) := by decide +kernel
theorem dX7_detOf_45 : decode cX7_detOf 45 = .ok (.iconst 1, 1) := by decide +kernel
theorem dX7_detOf_46 : decode cX7_detOf 46 = .ok (.iconst 2, 1) := by decide +kernel
theorem dX7_detOf_47 : decode cX7_detOf 47 = .ok (.iconst 1, 1) := by decide +kernel
theorem dX7_detOf_48 : decode cX7_detOf 48 = .ok (.iconst 2, 1) := by decide +kernel
theorem dX7_detOf_49 : decode cX7_detOf 49 = .ok (.invokevirtual 132, 3) := by decide +kernel
theorem dX7_detOf_52 : decode cX7_detOf 52 = .ok (.lmul, 1) := by decide +kernel
theorem dX7_detOf_53 : decode cX7_detOf 53 = .ok (.aload_n 0, 1) := by decide +kernel
theorem dX7_detOf_54 : decode cX7_detOf 54 = .ok (.iload_n 1, 1) := by decide +kernel
theorem dX7_detOf_55 : decode cX7_detOf 55 = .ok (.iconst 0, 1) := by decide +kernel
theorem dX7_detOf_56 : decode cX7_detOf 56 = .ok (.iconst 1, 1) := by decide +kernel
theorem dX7_detOf_57 : decode cX7_detOf 57 = .ok (.invokevirtual 128, 3) := by decide +kernel
theorem dX7_detOf_60 : decode cX7_detOf 60 = .ok (.i2l, 1) := by decide +kernel
theorem dX7_detOf_61 : decode cX7_detOf 61 = .ok (.aload_n 0, 1) := by decide +kernel
theorem dX7_detOf_62 : decode cX7_detOf 62 = .ok (.iload_n 1, 1) := by decide +kernel
theorem dX7_detOf_63 : decode cX7_detOf 63 = .ok (.iconst 1, 1) := by decide +kernel
theorem dX7_detOf_64 : decode cX7_detOf 64 = .ok (.iconst 2, 1) := by decide +kernel
theorem dX7_detOf_65 : decode cX7_detOf 65 = .ok (.iconst 0, 1) := by decide +kernel
theorem dX7_detOf_66 : decode cX7_detOf 66 = .ok (.iconst 2, 1) := by decide +kernel
theorem dX7_detOf_67 : decode cX7_detOf 67 = .ok (.invokevirtual 132, 3) := by decide +kernel
theorem dX7_detOf_70 : decode cX7_detOf 70 = .ok (.lmul, 1) := by decide +kernel
theorem dX7_detOf_71 : decode cX7_detOf 71 = .ok (.lsub, 1) := by decide +kernel
theorem dX7_detOf_72 : decode cX7_detOf 72 = .ok (.aload_n 0, 1) := by decide +kernel
theorem dX7_detOf_73 : decode cX7_detOf 73 = .ok (.iload_n 1, 1) := by decide +kernel
theorem dX7_detOf_74 : decode cX7_detOf 74 = .ok (.iconst 0, 1) := by decide +kernel
theorem dX7_detOf_75 : decode cX7_detOf 75 = .ok (.iconst 2, 1) := by decide +kernel
theorem dX7_detOf_76 : decode cX7_detOf 76 = .ok (.invokevirtual 128, 3) := by decide +kernel
theorem dX7_detOf_79 : decode cX7_detOf 79 = .ok (.i2l, 1) := by decide +kernel
theorem dX7_detOf_80 : decode cX7_detOf 80 = .ok (.aload_n 0, 1) := by decide +kernel
theorem dX7_detOf_81 : decode cX7_detOf 81 = .ok (.iload_n 1, 1) := by decide +kernel
theorem dX7_detOf_82 : decode cX7_detOf 82 = .ok (.iconst 1, 1) := by decide +kernel
theorem dX7_detOf_83 : decode cX7_detOf 83 = .ok (.iconst 2, 1) := by decide +kernel
theorem dX7_detOf_84 : decode cX7_detOf 84 = .ok (.iconst 0, 1) := by decide +kernel
theorem dX7_detOf_85 : decode cX7_detOf 85 = .ok (.iconst 1, 1) := by decide +kernel
theorem dX7_detOf_86 : decode cX7_detOf 86 = .ok (.invokevirtual 132, 3) := by decide +kernel
theorem dX7_detOf_89 : decode cX7_detOf 89 = .ok (.lmul, 1) := by decide +kernel
theorem dX7_detOf_90 : decode cX7_detOf 90 = .ok (.ladd, 1) := by decide +kernel
theorem dX7_detOf_91 : decode cX7_detOf 91 = .ok (.lreturn, 1) := by decide +kernel
theorem dX7_sumDown_0 : decode cX7_sumDown 0 = .ok (.lconst 0, 1) := by decide +kernel
theorem dX7_sumDown_1 : decode cX7_sumDown 1 = .ok (.lstore_n 2, 1) := by decide +kernel
theorem dX7_sumDown_2 : decode cX7_sumDown 2 = .ok (.iconst 0, 1) := by decide +kernel
theorem dX7_sumDown_3 : decode cX7_sumDown 3 = .ok (.istore 4, 2) := by decide +kernel
theorem dX7_sumDown_5 : decode cX7_sumDown 5 = .ok (.iload 4, 2) := by decide +kernel
theorem dX7_sumDown_7 : decode cX7_sumDown 7 = .ok (.aload_n 0, 1) := by decide +kernel
theorem dX7_sumDown_8 : decode cX7_sumDown 8 = .ok (.iload_n 1, 1) := by decide +kernel
theorem dX7_sumDown_9 : decode cX7_sumDown 9 = .ok (.invokevirtual 103, 3) := by decide +kernel
theorem dX7_sumDown_12 : decode cX7_sumDown 12 = .ok (.if_icmp .ge 22, 3) := by decide +kernel
theorem dX7_sumDown_15 : decode cX7_sumDown 15 = .ok (.lload_n 2, 1) := by decide +kernel
theorem dX7_sumDown_16 : decode cX7_sumDown 16 = .ok (.aload_n 0, 1) := by decide +kernel
theorem dX7_sumDown_17 : decode cX7_sumDown 17 = .ok (.iload_n 1, 1) := by decide +kernel
theorem dX7_sumDown_18 : decode cX7_sumDown 18 = .ok (.iload 4, 2) := by decide +kernel
theorem dX7_sumDown_20 : decode cX7_sumDown 20 = .ok (.iload 4, 2) := by decide +kernel
theorem dX7_sumDown_22 : decode cX7_sumDown 22 = .ok (.invokevirtual 128, 3) := by decide +kernel
theorem dX7_sumDown_25 : decode cX7_sumDown 25 = .ok (.i2l, 1) := by decide +kernel
theorem dX7_sumDown_26 : decode cX7_sumDown 26 = .ok (.ladd, 1) := by decide +kernel
theorem dX7_sumDown_27 : decode cX7_sumDown 27 = .ok (.lstore_n 2, 1) := by decide +kernel
theorem dX7_sumDown_28 : decode cX7_sumDown 28 = .ok (.iinc 4 1, 3) := by decide +kernel
theorem dX7_sumDown_31 : decode cX7_sumDown 31 = .ok (.goto (-26), 3) := by decide +kernel
theorem dX7_sumDown_34 : decode cX7_sumDown 34 = .ok (.lload_n 2, 1) := by decide +kernel
theorem dX7_sumDown_35 : decode cX7_sumDown 35 = .ok (.lreturn, 1) := by decide +kernel
theorem dX7_pairs_0 : decode cX7_pairs 0 = .ok (.lconst 0, 1) := by decide +kernel
theorem dX7_pairs_1 : decode cX7_pairs 1 = .ok (.lstore_n 2, 1) := by decide +kernel
theorem dX7_pairs_2 : decode cX7_pairs 2 = .ok (.iconst 0, 1) := by decide +kernel
theorem dX7_pairs_3 : decode cX7_pairs 3 = .ok (.istore 4, 2) := by decide +kernel
theorem dX7_pairs_5 : decode cX7_pairs 5 = .ok (.iload 4, 2) := by decide +kernel
theorem dX7_pairs_7 : decode cX7_pairs 7 = .ok (.aload_n 0, 1) := by decide +kernel
theorem dX7_pairs_8 : decode cX7_pairs 8 = .ok (.iload_n 1, 1) := by decide +kernel
theorem dX7_pairs_9 : decode cX7_pairs 9 = .ok (.invokevirtual 103, 3) := by decide +kernel
theorem dX7_pairs_12 : decode cX7_pairs 12 = .ok (.if_icmp .ge 47, 3) := by decide +kernel
theorem dX7_pairs_15 : decode cX7_pairs 15 = .ok (.iload 4, 2) := by decide +kernel
theorem dX7_pairs_17 : decode cX7_pairs 17 = .ok (.iconst 1, 1) := by decide +kernel
theorem dX7_pairs_18 : decode cX7_pairs 18 = .ok (.iadd, 1) := by decide +kernel
theorem dX7_pairs_19 : decode cX7_pairs 19 = .ok (.istore 5, 2) := by decide +kernel
theorem dX7_pairs_21 : decode cX7_pairs 21 = .ok (.iload 5, 2) := by decide +kernel
theorem dX7_pairs_23 : decode cX7_pairs 23 = .ok (.aload_n 0, 1) := by decide +kernel
theorem dX7_pairs_24 : decode cX7_pairs 24 = .ok (.iload_n 1, 1) := by decide +kernel
theorem dX7_pairs_25 : decode cX7_pairs 25 = .ok (.invokevirtual 103, 3) := by decide +kernel
theorem dX7_pairs_28 : decode cX7_pairs 28 = .ok (.if_icmp .ge 25, 3) := by decide +kernel
theorem dX7_pairs_31 : decode cX7_pairs 31 = .ok (.lload_n 2, 1) := by decide +kernel
theorem dX7_pairs_32 : decode cX7_pairs 32 = .ok (.aload_n 0, 1) := by decide +kernel
theorem dX7_pairs_33 : decode cX7_pairs 33 = .ok (.iload_n 1, 1) := by decide +kernel
theorem dX7_pairs_34 : decode cX7_pairs 34 = .ok (.iload 4, 2) := by decide +kernel
theorem dX7_pairs_36 : decode cX7_pairs 36 = .ok (.iload 5, 2) := by decide +kernel
theorem dX7_pairs_38 : decode cX7_pairs 38 = .ok (.iload 4, 2) := by decide +kernel
theorem dX7_pairs_40 : decode cX7_pairs 40 = .ok (.iload 5, 2) := by decide +kernel
theorem dX7_pairs_42 : decode cX7_pairs 42 = .ok (.invokevirtual 132, 3) := by decide +kernel
theorem dX7_pairs_45 : decode cX7_pairs 45 = .ok (.ladd, 1) := by decide +kernel
theorem dX7_pairs_46 : decode cX7_pairs 46 = .ok (.lstore_n 2, 1) := by decide +kernel
theorem dX7_pairs_47 : decode cX7_pairs 47 = .ok (.iinc 5 1, 3) := by decide +kernel
theorem dX7_pairs_50 : decode cX7_pairs 50 = .ok (.goto (-29), 3) := by decide +kernel
theorem dX7_pairs_53 : decode cX7_pairs 53 = .ok (.iinc 4 1, 3) := by decide +kernel
theorem dX7_pairs_56 : decode cX7_pairs 56 = .ok (.goto (-51), 3) := by decide +kernel
theorem dX7_pairs_59 : decode cX7_pairs 59 = .ok (.lload_n 2, 1) := by decide +kernel
theorem dX7_pairs_60 : decode cX7_pairs 60 = .ok (.lreturn, 1) := by decide +kernel
theorem dX7_det_0 : decode cX7_det 0 = .ok (.iload_n 1, 1) := by decide +kernel
theorem dX7_det_1 : decode cX7_det 1 = .ok (.i2l, 1) := by decide +kernel
theorem dX7_det_2 : decode cX7_det 2 = .ok (.lconst 0, 1) := by decide +kernel
theorem dX7_det_3 : decode cX7_det 3 = .ok (.lconst 1, 1) := by decide +kernel
theorem dX7_det_4 : decode cX7_det 4 = .ok (.invokestatic 99, 3) := by decide +kernel
theorem dX7_det_7 : decode cX7_det 7 = .ok (.ifCond .eq 11, 3) := by decide +kernel
theorem dX7_det_10 : decode cX7_det 10 = .ok (.aload_n 0, 1) := by decide +kernel
theorem dX7_det_11 : decode cX7_det 11 = .ok (.iload_n 1, 1) := by decide +kernel
theorem dX7_det_12 : decode cX7_det 12 = .ok (.invokevirtual 136, 3) := by decide +kernel
theorem dX7_det_15 : decode cX7_det 15 = .ok (.goto 7, 3) := by decide +kernel
theorem dX7_det_18 : decode cX7_det 18 = .ok (.iconst (-1), 1) := by decide +kernel
theorem dX7_det_19 : decode cX7_det 19 = .ok (.invokestatic 140, 3) := by decide +kernel
theorem dX7_det_22 : decode cX7_det 22 = .ok (.lreturn, 1) := by decide +kernel
theorem dX7_diagonal_0 : decode cX7_diagonal 0 = .ok (.iload_n 1, 1) := by decide +kernel
theorem dX7_diagonal_1 : decode cX7_diagonal 1 = .ok (.i2l, 1) := by decide +kernel
theorem dX7_diagonal_2 : decode cX7_diagonal 2 = .ok (.lconst 0, 1) := by decide +kernel
theorem dX7_diagonal_3 : decode cX7_diagonal 3 = .ok (.ldc2_w 97, 3) := by decide +kernel
theorem dX7_diagonal_6 : decode cX7_diagonal 6 = .ok (.invokestatic 99, 3) := by decide +kernel
theorem dX7_diagonal_9 : decode cX7_diagonal 9 = .ok (.ifCond .ne 8, 3) := by decide +kernel
theorem dX7_diagonal_12 : decode cX7_diagonal 12 = .ok (.iconst (-1), 1) := by decide +kernel
theorem dX7_diagonal_13 : decode cX7_diagonal 13 = .ok (.invokestatic 140, 3) := by decide +kernel
theorem dX7_diagonal_16 : decode cX7_diagonal 16 = .ok (.lreturn, 1) := by decide +kernel
theorem dX7_diagonal_17 : decode cX7_diagonal 17 = .ok (.iload_n 1, 1) := by decide +kernel
theorem dX7_diagonal_18 : decode cX7_diagonal 18 = .ok (.iconst 2, 1) := by decide +kernel
theorem dX7_diagonal_19 : decode cX7_diagonal 19 = .ok (.if_icmp .ne 22, 3) := by decide +kernel
theorem dX7_diagonal_22 : decode cX7_diagonal 22 = .ok (.aload_n 0, 1) := by decide +kernel
theorem dX7_diagonal_23 : decode cX7_diagonal 23 = .ok (.getfield 19, 3) := by decide +kernel
theorem dX7_diagonal_26 : decode cX7_diagonal 26 = .ok (.aload_n 0, 1) := by decide +kernel
theorem dX7_diagonal_27 : decode cX7_diagonal 27 = .ok (.getfield 23, 3) := by decide +kernel
theorem dX7_diagonal_30 : decode cX7_diagonal 30 = .ok (.if_icmp .eq 11, 3) := by decide +kernel
theorem dX7_diagonal_33 : decode cX7_diagonal 33 = .ok (.bipush (-4), 2) := by decide +kernel
theorem dX7_diagonal_35 : decode cX7_diagonal 35 = .ok (.invokestatic 140, 3) := by decide +kernel
theorem dX7_diagonal_38 : decode cX7_diagonal 38 = .ok (.goto 8, 3) := by decide +kernel
theorem dX7_diagonal_41 : decode cX7_diagonal 41 = .ok (.aload_n 0, 1) := by decide +kernel
theorem dX7_diagonal_42 : decode cX7_diagonal 42 = .ok (.iload_n 1, 1) := by decide +kernel
theorem dX7_diagonal_43 : decode cX7_diagonal 43 = .ok (.invokevirtual 143, 3) := by decide +kernel
theorem dX7_diagonal_46 : decode cX7_diagonal 46 = .ok (.lreturn, 1) := by decide +kernel
theorem dX7_character_0 : decode cX7_character 0 = .ok (.iload_n 1, 1) := by decide +kernel
theorem dX7_character_1 : decode cX7_character 1 = .ok (.i2l, 1) := by decide +kernel
theorem dX7_character_2 : decode cX7_character 2 = .ok (.lconst 0, 1) := by decide +kernel
theorem dX7_character_3 : decode cX7_character 3 = .ok (.lconst 1, 1) := by decide +kernel
theorem dX7_character_4 : decode cX7_character 4 = .ok (.invokestatic 99, 3) := by decide +kernel
theorem dX7_character_7 : decode cX7_character 7 = .ok (.ifCond .eq 18, 3) := by decide +kernel
theorem dX7_character_10 : decode cX7_character 10 = .ok (.iload_n 2, 1) := by decide +kernel
theorem dX7_character_11 : decode cX7_character 11 = .ok (.i2l, 1) := by decide +kernel
theorem dX7_character_12 : decode cX7_character 12 = .ok (.lconst 0, 1) := by decide +kernel
theorem dX7_character_13 : decode cX7_character 13 = .ok (.aload_n 0, 1) := by decide +kernel
theorem dX7_character_14 : decode cX7_character 14 = .ok (.iload_n 1, 1) := by decide +kernel
theorem dX7_character_15 : decode cX7_character 15 = .ok (.invokevirtual 103, 3) := by decide +kernel
theorem dX7_character_18 : decode cX7_character 18 = .ok (.i2l, 1) := by decide +kernel
theorem dX7_character_19 : decode cX7_character 19 = .ok (.invokestatic 99, 3) := by decide +kernel
theorem dX7_character_22 : decode cX7_character 22 = .ok (.ifCond .ne 8, 3) := by decide +kernel
theorem dX7_character_25 : decode cX7_character 25 = .ok (.iconst (-1), 1) := by decide +kernel
theorem dX7_character_26 : decode cX7_character 26 = .ok (.invokestatic 140, 3) := by decide +kernel
theorem dX7_character_29 : decode cX7_character 29 = .ok (.lreturn, 1) := by decide +kernel
theorem dX7_character_30 : decode cX7_character 30 = .ok (.aload_n 0, 1) := by decide +kernel
theorem dX7_character_31 : decode cX7_character 31 = .ok (.iload_n 1, 1) := by decide +kernel
theorem dX7_character_32 : decode cX7_character 32 = .ok (.invokevirtual 103, 3) := by decide +kernel
theorem dX7_character_35 : decode cX7_character 35 = .ok (.iload_n 2, 1) := by decide +kernel
theorem dX7_character_36 : decode cX7_character 36 = .ok (.isub, 1) := by decide +kernel
theorem dX7_character_37 : decode cX7_character 37 = .ok (.istore_n 3, 1) := by decide +kernel
theorem dX7_character_38 : decode cX7_character 38 = .ok (.iload_n 2, 1) := by decide +kernel
theorem dX7_character_39 : decode cX7_character 39 = .ok (.ifCond .ne 24, 3) := by decide +kernel
theorem dX7_character_42 : decode cX7_character 42 = .ok (.iload_n 3, 1) := by decide +kernel
theorem dX7_character_43 : decode cX7_character 43 = .ok (.iconst 2, 1) := by decide +kernel
theorem dX7_character_44 : decode cX7_character 44 = .ok (.irem, 1) := by decide +kernel
theorem dX7_character_45 : decode cX7_character 45 = .ok (.ifCond .ne 11, 3) := by decide +kernel
theorem dX7_character_48 : decode cX7_character 48 = .ok (.aload_n 0, 1) := by decide +kernel
theorem dX7_character_49 : decode cX7_character 49 = .ok (.iload_n 1, 1) := by decide +kernel
theorem dX7_character_50 : decode cX7_character 50 = .ok (.invokevirtual 136, 3) := by decide +kernel
theorem dX7_character_53 : decode cX7_character 53 = .ok (.goto 9, 3) := by decide +kernel
theorem dX7_character_56 : decode cX7_character 56 = .ok (.aload_n 0, 1) := by decide +kernel
theorem dX7_character_57 : decode cX7_character 57 = .ok (.iload_n 1, 1) := by decide +kernel
theorem dX7_character_58 : decode cX7_character 58 = .ok (.invokevirtual 136, 3) := by decide +kernel
theorem dX7_character_61 : decode cX7_character 61 = .ok (.lneg, 1) := by decide +kernel
theorem dX7_character_62 : decode cX7_character 62 = .ok (.lreturn, 1) := by decide +kernel
theorem dX7_character_63 : decode cX7_character 63 = .ok (.iload_n 3, 1) := by decide +kernel
theorem dX7_character_64 : decode cX7_character 64 = .ok (.ifCond .ne 7, 3) := by decide +kernel
theorem dX7_character_67 : decode cX7_character 67 = .ok (.lconst 1, 1) := by decide +kernel
theorem dX7_character_68 : decode cX7_character 68 = .ok (.goto 22, 3) := by decide +kernel
theorem dX7_character_71 : decode cX7_character 71 = .ok (.iload_n 3, 1) := by decide +kernel
theorem dX7_character_72 : decode cX7_character 72 = .ok (.iconst 1, 1) := by decide +kernel
theorem dX7_character_73 : decode cX7_character 73 = .ok (.if_icmp .ne 12, 3) := by decide +kernel
theorem dX7_character_76 : decode cX7_character 76 = .ok (.aload_n 0, 1) := by decide +kernel
theorem dX7_character_77 : decode cX7_character 77 = .ok (.iload_n 1, 1) := by decide +kernel
theorem dX7_character_78 : decode cX7_character 78 = .ok (.invokevirtual 143, 3) := by decide +kernel
theorem dX7_character_81 : decode cX7_character 81 = .ok (.lneg, 1) := by decide +kernel
theorem dX7_character_82 : decode cX7_character 82 = .ok (.goto 8, 3) := by decide +kernel
theorem dX7_character_85 : decode cX7_character 85 = .ok (.aload_n 0, 1) := by decide +kernel
theorem dX7_character_86 : decode cX7_character 86 = .ok (.iload_n 1, 1) := by decide +kernel
theorem dX7_character_87 : decode cX7_character 87 = .ok (.invokevirtual 146, 3) := by decide +kernel
theorem dX7_character_90 : decode cX7_character 90 = .ok (.lreturn, 1) := by decide +kernel
theorem dX7_feed_0 : decode cX7_feed 0 = .ok (.iload_n 3, 1) := by decide +kernel
theorem dX7_feed_1 : decode cX7_feed 1 = .ok (.i2l, 1) := by decide +kernel
theorem dX7_feed_2 : decode cX7_feed 2 = .ok (.lconst 1, 1) := by decide +kernel
theorem dX7_feed_3 : decode cX7_feed 3 = .ok (.ldc2_w 149, 3) := by decide +kernel
theorem dX7_feed_6 : decode cX7_feed 6 = .ok (.invokestatic 99, 3) := by decide +kernel
theorem dX7_feed_9 : decode cX7_feed 9 = .ok (.ifCond .ne 5, 3) := by decide +kernel
theorem dX7_feed_12 : decode cX7_feed 12 = .ok (.iconst (-1), 1) := by decide +kernel
theorem dX7_feed_13 : decode cX7_feed 13 = .ok (.ireturn, 1) := by decide +kernel
theorem dX7_feed_14 : decode cX7_feed 14 = .ok (.aload_n 0, 1) := by decide +kernel
theorem dX7_feed_15 : decode cX7_feed 15 = .ok (.getfield 151, 3) := by decide +kernel
theorem dX7_feed_18 : decode cX7_feed 18 = .ok (.iload_n 3, 1) := by decide +kernel
theorem dX7_feed_19 : decode cX7_feed 19 = .ok (.iadd, 1) := by decide +kernel
theorem dX7_feed_20 : decode cX7_feed 20 = .ok (.sipush 200, 3) := by decide +kernel
theorem dX7_feed_23 : decode cX7_feed 23 = .ok (.if_icmp .le 6, 3) := by decide +kernel
theorem dX7_feed_26 : decode cX7_feed 26 = .ok (.bipush (-2), 2) := by decide +kernel
theorem dX7_feed_28 : decode cX7_feed 28 = .ok (.ireturn, 1) := by decide +kernel
theorem dX7_feed_29 : decode cX7_feed 29 = .ok (.iconst 0, 1) := by decide +kernel
theorem dX7_feed_30 : decode cX7_feed 30 = .ok (.istore 4, 2) := by decide +kernel
theorem dX7_feed_32 : decode cX7_feed 32 = .ok (.iload 4, 2) := by decide +kernel
theorem dX7_feed_34 : decode cX7_feed 34 = .ok (.iload_n 3, 1) := by decide +kernel
theorem dX7_feed_35 : decode cX7_feed 35 = .ok (.if_icmp .ge 37, 3) := by decide +kernel
theorem dX7_feed_38 : decode cX7_feed 38 = .ok (.aload_n 0, 1) := by decide +kernel
theorem dX7_feed_39 : decode cX7_feed 39 = .ok (.getfield 41, 3) := by decide +kernel
theorem dX7_feed_42 : decode cX7_feed 42 = .ok (.aload_n 0, 1) := by decide +kernel
theorem dX7_feed_43 : decode cX7_feed 43 = .ok (.getfield 151, 3) := by decide +kernel
theorem dX7_feed_46 : decode cX7_feed 46 = .ok (.lload_n 1, 1) := by decide +kernel
theorem dX7_feed_47 : decode cX7_feed 47 = .ok (.bipush 8, 2) := by decide +kernel
theorem dX7_feed_49 : decode cX7_feed 49 = .ok (.iload 4, 2) := by decide +kernel
theorem dX7_feed_51 : decode cX7_feed 51 = .ok (.imul, 1) := by decide +kernel
theorem dX7_feed_52 : decode cX7_feed 52 = .ok (.lushr, 1) := by decide +kernel
theorem dX7_feed_53 : decode cX7_feed 53 = .ok (.l2i, 1) := by decide +kernel
theorem dX7_feed_54 : decode cX7_feed 54 = .ok (.i2b, 1) := by decide +kernel
theorem dX7_feed_55 : decode cX7_feed 55 = .ok (.bastore, 1) := by decide +kernel
theorem dX7_feed_56 : decode cX7_feed 56 = .ok (.aload_n 0, 1) := by decide +kernel
theorem dX7_feed_57 : decode cX7_feed 57 = .ok (.dup, 1) := by decide +kernel
theorem dX7_feed_58 : decode cX7_feed 58 = .ok (.getfield 151, 3) := by decide +kernel
theorem dX7_feed_61 : decode cX7_feed 61 = .ok (.iconst 1, 1) := by decide +kernel
theorem dX7_feed_62 : decode cX7_feed 62 = .ok (.iadd, 1) := by decide +kernel
theorem dX7_feed_63 : decode cX7_feed 63 = .ok (.putfield 151, 3) := by decide +kernel
theorem dX7_feed_66 : decode cX7_feed 66 = .ok (.iinc 4 1, 3) := by decide +kernel
theorem dX7_feed_69 : decode cX7_feed 69 = .ok (.goto (-37), 3) := by decide +kernel
theorem dX7_feed_72 : decode cX7_feed 72 = .ok (.aload_n 0, 1) := by decide +kernel
theorem dX7_feed_73 : decode cX7_feed 73 = .ok (.getfield 151, 3) := by decide +kernel
theorem dX7_feed_76 : decode cX7_feed 76 = .ok (.ireturn, 1) := by decide +kernel
theorem dX7_isDigit_0 : decode cX7_isDigit 0 = .ok (.iload_n 0, 1) := by decide +kernel
theorem dX7_isDigit_1 : decode cX7_isDigit 1 = .ok (.bipush 48, 2) := by decide +kernel
theorem dX7_isDigit_3 : decode cX7_isDigit 3 = .ok (.if_icmp .lt 13, 3) := by decide +kernel
theorem dX7_isDigit_6 : decode cX7_isDigit 6 = .ok (.iload_n 0, 1) := by decide +kernel
theorem dX7_isDigit_7 : decode cX7_isDigit 7 = .ok (.bipush 57, 2) := by decide +kernel
theorem dX7_isDigit_9 : decode cX7_isDigit 9 = .ok (.if_icmp .gt 7, 3) := by decide +kernel
theorem dX7_isDigit_12 : decode cX7_isDigit 12 = .ok (.iconst 1, 1) := by decide +kernel
theorem dX7_isDigit_13 : decode cX7_isDigit 13 = .ok (.goto 4, 3) := by decide +kernel
theorem dX7_isDigit_16 : decode cX7_isDigit 16 = .ok (.iconst 0, 1) := by decide +kernel
theorem dX7_isDigit_17 : decode cX7_isDigit 17 = .ok (.ireturn, 1) := by decide +kernel
theorem dX7_isLetter_0 : decode cX7_isLetter 0 = .ok (.iload_n 0, 1) := by decide +kernel
theorem dX7_isLetter_1 : decode cX7_isLetter 1 = .ok (.bipush 97, 2) := by decide +kernel
theorem dX7_isLetter_3 : decode cX7_isLetter 3 = .ok (.if_icmp .lt 13, 3) := by decide +kernel
theorem dX7_isLetter_6 : decode cX7_isLetter 6 = .ok (.iload_n 0, 1) := by decide +kernel
theorem dX7_isLetter_7 : decode cX7_isLetter 7 = .ok (.bipush 122, 2) := by decide +kernel
theorem dX7_isLetter_9 : decode cX7_isLetter 9 = .ok (.if_icmp .gt 7, 3) := by decide +kernel
theorem dX7_isLetter_12 : decode cX7_isLetter 12 = .ok (.iconst 1, 1) := by decide +kernel
theorem dX7_isLetter_13 : decode cX7_isLetter 13 = .ok (.goto 4, 3) := by decide +kernel
theorem dX7_isLetter_16 : decode cX7_isLetter 16 = .ok (.iconst 0, 1) := by decide +kernel
theorem dX7_isLetter_17 : decode cX7_isLetter 17 = .ok (.ireturn, 1) := by decide +kernel
theorem dX7_next_0 : decode cX7_next 0 = .ok (.aload_n 0, 1) := by decide +kernel
theorem dX7_next_1 : decode cX7_next 1 = .ok (.aload_n 0, 1) := by decide +kernel
theorem dX7_next_2 : decode cX7_next 2 = .ok (.getfield 154, 3) := by decide +kernel
theorem dX7_next_5 : decode cX7_next 5 = .ok (.putfield 157, 3) := by decide +kernel
theorem dX7_next_8 : decode cX7_next 8 = .ok (.aload_n 0, 1) := by decide +kernel
theorem dX7_next_9 : decode cX7_next 9 = .ok (.getfield 157, 3) := by decide +kernel
theorem dX7_next_12 : decode cX7_next 12 = .ok (.aload_n 0, 1) := by decide +kernel
theorem dX7_next_13 : decode cX7_next 13 = .ok (.getfield 151, 3) := by decide +kernel
theorem dX7_next_16 : decode cX7_next 16 = .ok (.if_icmp .ge 30, 3) := by decide +kernel
theorem dX7_next_19 : decode cX7_next 19 = .ok (.aload_n 0, 1) := by decide +kernel
theorem dX7_next_20 : decode cX7_next 20 = .ok (.getfield 41, 3) := by decide +kernel
theorem dX7_next_23 : decode cX7_next 23 = .ok (.aload_n 0, 1) := by decide +kernel
theorem dX7_next_24 : decode cX7_next 24 = .ok (.getfield 157, 3) := by decide +kernel
theorem dX7_next_27 : decode cX7_next 27 = .ok (.baload, 1) := by decide +kernel
theorem dX7_next_28 : decode cX7_next 28 = .ok (.bipush 32, 2) := by decide +kernel
theorem dX7_next_30 : decode cX7_next 30 = .ok (.if_icmp .ne 16, 3) := by decide +kernel
theorem dX7_next_33 : decode cX7_next 33 = .ok (.aload_n 0, 1) := by decide +kernel
theorem dX7_next_34 : decode cX7_next 34 = .ok (.dup, 1) := by decide +kernel
theorem dX7_next_35 : decode cX7_next 35 = .ok (.getfield 157, 3) := by decide +kernel
theorem dX7_next_38 : decode cX7_next 38 = .ok (.iconst 1, 1) := by decide +kernel
theorem dX7_next_39 : decode cX7_next 39 = .ok (.iadd, 1) := by decide +kernel
theorem dX7_next_40 : decode cX7_next 40 = .ok (.putfield 157, 3) := by decide +kernel
theorem dX7_next_43 : decode cX7_next 43 = .ok (.goto (-35), 3) := by decide +kernel
theorem dX7_next_46 : decode cX7_next 46 = .ok (.aload_n 0, 1) := by decide +kernel
theorem dX7_next_47 : decode cX7_next 47 = .ok (.aload_n 0, 1) := by decide +kernel
theorem dX7_next_48 : decode cX7_next 48 = .ok (.getfield 157, 3) := by decide +kernel
theorem dX7_next_51 : decode cX7_next 51 = .ok (.putfield 154, 3) := by decide +kernel
theorem dX7_next_54 : decode cX7_next 54 = .ok (.aload_n 0, 1) := by decide +kernel
theorem dX7_next_55 : decode cX7_next 55 = .ok (.getfield 157, 3) := by decide +kernel
theorem dX7_next_58 : decode cX7_next 58 = .ok (.aload_n 0, 1) := by decide +kernel
theorem dX7_next_59 : decode cX7_next 59 = .ok (.getfield 151, 3) := by decide +kernel
theorem dX7_next_62 : decode cX7_next 62 = .ok (.if_icmp .ne 4, 3) := by decide +kernel
theorem dX7_next_65 : decode cX7_next 65 = .ok (.return_, 1) := by decide +kernel
theorem dX7_next_66 : decode cX7_next 66 = .ok (.aload_n 0, 1) := by decide +kernel
theorem dX7_next_67 : decode cX7_next 67 = .ok (.dup, 1) := by decide +kernel
theorem dX7_next_68 : decode cX7_next 68 = .ok (.getfield 154, 3) := by decide +kernel
theorem dX7_next_71 : decode cX7_next 71 = .ok (.iconst 1, 1) := by decide +kernel
theorem dX7_next_72 : decode cX7_next 72 = .ok (.iadd, 1) := by decide +kernel
theorem dX7_next_73 : decode cX7_next 73 = .ok (.putfield 154, 3) := by decide +kernel
theorem dX7_next_76 : decode cX7_next 76 = .ok (.aload_n 0, 1) := by decide +kernel
theorem dX7_next_77 : decode cX7_next 77 = .ok (.getfield 41, 3) := by decide +kernel
theorem dX7_next_80 : decode cX7_next 80 = .ok (.aload_n 0, 1) := by decide +kernel
theorem dX7_next_81 : decode cX7_next 81 = .ok (.getfield 157, 3) := by decide +kernel
theorem dX7_next_84 : decode cX7_next 84 = .ok (.baload, 1) := by decide +kernel
theorem dX7_next_85 : decode cX7_next 85 = .ok (.invokestatic 160, 3) := by decide +kernel
theorem dX7_next_88 : decode cX7_next 88 = .ok (.istore_n 1, 1) := by decide +kernel
theorem dX7_next_89 : decode cX7_next 89 = .ok (.aload_n 0, 1) := by decide +kernel
theorem dX7_next_90 : decode cX7_next 90 = .ok (.getfield 41, 3) := by decide +kernel
theorem dX7_next_93 : decode cX7_next 93 = .ok (.aload_n 0, 1) := by decide +kernel
theorem dX7_next_94 : decode cX7_next 94 = .ok (.getfield 157, 3) := by decide +kernel
theorem dX7_next_97 : decode cX7_next 97 = .ok (.baload, 1) := by decide +kernel
theorem dX7_next_98 : decode cX7_next 98 = .ok (.invokestatic 164, 3) := by decide +kernel
theorem dX7_next_101 : decode cX7_next 101 = .ok (.istore_n 2, 1) := by decide +kernel
theorem dX7_next_102 : decode cX7_next 102 = .ok (.aload_n 0, 1) := by decide +kernel
theorem dX7_next_103 : decode cX7_next 103 = .ok (.getfield 154, 3) := by decide +kernel
theorem dX7_next_106 : decode cX7_next 106 = .ok (.aload_n 0, 1) := by decide +kernel
theorem dX7_next_107 : decode cX7_next 107 = .ok (.getfield 151, 3) := by decide +kernel
theorem dX7_next_110 : decode cX7_next 110 = .ok (.if_icmp .ge 54, 3) := by decide +kernel
theorem dX7_next_113 : decode cX7_next 113 = .ok (.iload_n 1, 1) := by decide +kernel
theorem dX7_next_114 : decode cX7_next 114 = .ok (.ifCond .eq 18, 3) := by decide +kernel
theorem dX7_next_117 : decode cX7_next 117 = .ok (.aload_n 0, 1) := by decide +kernel
theorem dX7_next_118 : decode cX7_next 118 = .ok (.getfield 41, 3) := by decide +kernel
theorem dX7_next_121 : decode cX7_next 121 = .ok (.aload_n 0, 1) := by decide +kernel
theorem dX7_next_122 : decode cX7_next 122 = .ok (.getfield 154, 3) := by decide +kernel
theorem dX7_next_125 : decode cX7_next 125 = .ok (.baload, 1) := by decide +kernel
theorem dX7_next_126 : decode cX7_next 126 = .ok (.invokestatic 160, 3) := by decide +kernel
theorem dX7_next_129 : decode cX7_next 129 = .ok (.ifCond .ne 22, 3) := by decide +kernel
theorem dX7_next_132 : decode cX7_next 132 = .ok (.iload_n 2, 1) := by decide +kernel
theorem dX7_next_133 : decode cX7_next 133 = .ok (.ifCond .eq 31, 3) := by decide +kernel
theorem dX7_next_136 : decode cX7_next 136 = .ok (.aload_n 0, 1) := by decide +kernel
theorem dX7_next_137 : decode cX7_next 137 = .ok (.getfield 41, 3) := by decide +kernel
theorem dX7_next_140 : decode cX7_next 140 = .ok (.aload_n 0, 1) := by decide +kernel
theorem dX7_next_141 : decode cX7_next 141 = .ok (.getfield 154, 3) := by decide +kernel
theorem dX7_next_144 : decode cX7_next 144 = .ok (.baload, 1) := by decide +kernel
theorem dX7_next_145 : decode cX7_next 145 = .ok (.invokestatic 164, 3) := by decide +kernel
theorem dX7_next_148 : decode cX7_next 148 = .ok (.ifCond .eq 16, 3) := by decide +kernel
theorem dX7_next_151 : decode cX7_next 151 = .ok (.aload_n 0, 1) := by decide +kernel
theorem dX7_next_152 : decode cX7_next 152 = .ok (.dup, 1) := by decide +kernel
theorem dX7_next_153 : decode cX7_next 153 = .ok (.getfield 154, 3) := by decide +kernel
theorem dX7_next_156 : decode cX7_next 156 = .ok (.iconst 1, 1) := by decide +kernel
theorem dX7_next_157 : decode cX7_next 157 = .ok (.iadd, 1) := by decide +kernel
theorem dX7_next_158 : decode cX7_next 158 = .ok (.putfield 154, 3) := by decide +kernel
theorem dX7_next_161 : decode cX7_next 161 = .ok (.goto (-59), 3) := by decide +kernel
theorem dX7_next_164 : decode cX7_next 164 = .ok (.return_, 1) := by decide +kernel
theorem dX7_is_0 : decode cX7_is 0 = .ok (.aload_n 0, 1) := by decide +kernel
theorem dX7_is_1 : decode cX7_is 1 = .ok (.getfield 154, 3) := by decide +kernel
theorem dX7_is_4 : decode cX7_is 4 = .ok (.aload_n 0, 1) := by decide +kernel
theorem dX7_is_5 : decode cX7_is 5 = .ok (.getfield 157, 3) := by decide +kernel
theorem dX7_is_8 : decode cX7_is 8 = .ok (.isub, 1) := by decide +kernel
theorem dX7_is_9 : decode cX7_is 9 = .ok (.iconst 1, 1) := by decide +kernel
theorem dX7_is_10 : decode cX7_is 10 = .ok (.if_icmp .ne 20, 3) := by decide +kernel
theorem dX7_is_13 : decode cX7_is 13 = .ok (.aload_n 0, 1) := by decide +kernel
theorem dX7_is_14 : decode cX7_is 14 = .ok (.getfield 41, 3) := by decide +kernel
theorem dX7_is_17 : decode cX7_is 17 = .ok (.aload_n 0, 1) := by decide +kernel
theorem dX7_is_18 : decode cX7_is 18 = .ok (.getfield 157, 3) := by decide +kernel
theorem dX7_is_21 : decode cX7_is 21 = .ok (.baload, 1) := by decide +kernel
theorem dX7_is_22 : decode cX7_is 22 = .ok (.iload_n 1, 1) := by decide +kernel
theorem dX7_is_23 : decode cX7_is 23 = .ok (.if_icmp .ne 7, 3) := by decide +kernel
theorem dX7_is_26 : decode cX7_is 26 = .ok (.iconst 1, 1) := by decide +kernel
theorem dX7_is_27 : decode cX7_is 27 = .ok (.goto 4, 3) := by decide +kernel
theorem dX7_is_30 : decode cX7_is 30 = .ok (.iconst 0, 1) := by decide +kernel
theorem dX7_is_31 : decode cX7_is 31 = .ok (.ireturn, 1) := by decide +kernel
theorem dX7_fails_0 : decode cX7_fails 0 = .ok (.aload_n 0, 1) := by decide +kernel
theorem dX7_fails_1 : decode cX7_fails 1 = .ok (.aload_n 0, 1) := by decide +kernel
theorem dX7_fails_2 : decode cX7_fails 2 = .ok (.getfield 167, 3) := by decide +kernel
theorem dX7_fails_5 : decode cX7_fails 5 = .ok (.ifCond .ge 10, 3) := by decide +kernel
theorem dX7_fails_8 : decode cX7_fails 8 = .ok (.aload_n 0, 1) := by decide +kernel
theorem dX7_fails_9 : decode cX7_fails 9 = .ok (.getfield 157, 3) := by decide +kernel
theorem dX7_fails_12 : decode cX7_fails 12 = .ok (.goto 7, 3) := by decide +kernel
theorem dX7_fails_15 : decode cX7_fails 15 = .ok (.aload_n 0, 1) := by decide +kernel
theorem dX7_fails_16 : decode cX7_fails 16 = .ok (.getfield 167, 3) := by decide +kernel
theorem dX7_fails_19 : decode cX7_fails 19 = .ok (.putfield 167, 3) := by decide +kernel
theorem dX7_fails_22 : decode cX7_fails 22 = .ok (.return_, 1) := by decide +kernel
theorem dX7_entryOf_0 : decode cX7_entryOf 0 = .ok (.aload_n 0, 1) := by decide +kernel
theorem dX7_entryOf_1 : decode cX7_entryOf 1 = .ok (.bipush 45, 2) := by decide +kernel
theorem dX7_entryOf_3 : decode cX7_entryOf 3 = .ok (.invokevirtual 170, 3) := by decide +kernel
theorem dX7_entryOf_6 : decode cX7_entryOf 6 = .ok (.istore 4, 2) := by decide +kernel
theorem dX7_entryOf_8 : decode cX7_entryOf 8 = .ok (.iload 4, 2) := by decide +kernel
theorem dX7_entryOf_10 : decode cX7_entryOf 10 = .ok (.ifCond .eq 7, 3) := by decide +kernel
theorem dX7_entryOf_13 : decode cX7_entryOf 13 = .ok (.aload_n 0, 1) := by decide +kernel
theorem dX7_entryOf_14 : decode cX7_entryOf 14 = .ok (.invokevirtual 173, 3) := by decide +kernel
theorem dX7_entryOf_17 : decode cX7_entryOf 17 = .ok (.aload_n 0, 1) := by decide +kernel
theorem dX7_entryOf_18 : decode cX7_entryOf 18 = .ok (.getfield 157, 3) := by decide +kernel
theorem dX7_entryOf_21 : decode cX7_entryOf 21 = .ok (.aload_n 0, 1) := by decide +kernel
theorem dX7_entryOf_22 : decode cX7_entryOf 22 = .ok (.getfield 151, 3) := by decide +kernel
theorem dX7_entryOf_25 : decode cX7_entryOf 25 = .ok (.if_icmp .eq 31, 3) := by decide +kernel
theorem dX7_entryOf_28 : decode cX7_entryOf 28 = .ok (.aload_n 0, 1) := by decide +kernel
theorem dX7_entryOf_29 : decode cX7_entryOf 29 = .ok (.getfield 41, 3) := by decide +kernel
theorem dX7_entryOf_32 : decode cX7_entryOf 32 = .ok (.aload_n 0, 1) := by decide +kernel
theorem dX7_entryOf_33 : decode cX7_entryOf 33 = .ok (.getfield 157, 3) := by decide +kernel
theorem dX7_entryOf_36 : decode cX7_entryOf 36 = .ok (.baload, 1) := by decide +kernel
theorem dX7_entryOf_37 : decode cX7_entryOf 37 = .ok (.invokestatic 164, 3) := by decide +kernel
theorem dX7_entryOf_40 : decode cX7_entryOf 40 = .ok (.ifCond .eq 16, 3) := by decide +kernel
theorem dX7_entryOf_43 : decode cX7_entryOf 43 = .ok (.aload_n 0, 1) := by decide +kernel
theorem dX7_entryOf_44 : decode cX7_entryOf 44 = .ok (.getfield 154, 3) := by decide +kernel
theorem dX7_entryOf_47 : decode cX7_entryOf 47 = .ok (.aload_n 0, 1) := by decide +kernel
theorem dX7_entryOf_48 : decode cX7_entryOf 48 = .ok (.getfield 157, 3) := by decide +kernel
theorem dX7_entryOf_51 : decode cX7_entryOf 51 = .ok (.isub, 1) := by decide +kernel
theorem dX7_entryOf_52 : decode cX7_entryOf 52 = .ok (.iconst 2, 1) := by decide +kernel
theorem dX7_entryOf_53 : decode cX7_entryOf 53 = .ok (.if_icmp .le 8, 3) := by decide +kernel
theorem dX7_entryOf_56 : decode cX7_entryOf 56 = .ok (.aload_n 0, 1) := by decide +kernel
theorem dX7_entryOf_57 : decode cX7_entryOf 57 = .ok (.invokevirtual 176, 3) := by decide +kernel
theorem dX7_entryOf_60 : decode cX7_entryOf 60 = .ok (.return_, 1) := by decide +kernel
theorem dX7_entryOf_61 : decode cX7_entryOf 61 = .ok (.iconst 0, 1) := by decide +kernel
theorem dX7_entryOf_62 : decode cX7_entryOf 62 = .ok (.istore 5, 2) := by decide +kernel
theorem dX7_entryOf_64 : decode cX7_entryOf 64 = .ok (.aload_n 0, 1) := by decide +kernel
theorem dX7_entryOf_65 : decode cX7_entryOf 65 = .ok (.getfield 157, 3) := by decide +kernel
theorem dX7_entryOf_68 : decode cX7_entryOf 68 = .ok (.istore 6, 2) := by decide +kernel
theorem dX7_entryOf_70 : decode cX7_entryOf 70 = .ok (.iload 6, 2) := by decide +kernel
theorem dX7_entryOf_72 : decode cX7_entryOf 72 = .ok (.aload_n 0, 1) := by decide +kernel
theorem dX7_entryOf_73 : decode cX7_entryOf 73 = .ok (.getfield 154, 3) := by decide +kernel
theorem dX7_entryOf_76 : decode cX7_entryOf 76 = .ok (.if_icmp .ge 27, 3) := by decide +kernel
theorem dX7_entryOf_79 : decode cX7_entryOf 79 = .ok (.bipush 10, 2) := by decide +kernel
theorem dX7_entryOf_81 : decode cX7_entryOf 81 = .ok (.iload 5, 2) := by decide +kernel
theorem dX7_entryOf_83 : decode cX7_entryOf 83 = .ok (.imul, 1) := by decide +kernel
theorem dX7_entryOf_84 : decode cX7_entryOf 84 = .ok (.aload_n 0, 1) := by decide +kernel
theorem dX7_entryOf_85 : decode cX7_entryOf 85 = .ok (.getfield 41, 3) := by decide +kernel
theorem dX7_entryOf_88 : decode cX7_entryOf 88 = .ok (.iload 6, 2) := by decide +kernel
theorem dX7_entryOf_90 : decode cX7_entryOf 90 = .ok (.baload, 1) := by decide +kernel
theorem dX7_entryOf_91 : decode cX7_entryOf 91 = .ok (.iadd, 1) := by decide +kernel
theorem dX7_entryOf_92 : decode cX7_entryOf 92 = .ok (.bipush 48, 2) := by decide +kernel
theorem dX7_entryOf_94 : decode cX7_entryOf 94 = .ok (.isub, 1) := by decide +kernel
theorem dX7_entryOf_95 : decode cX7_entryOf 95 = .ok (.istore 5, 2) := by decide +kernel
theorem dX7_entryOf_97 : decode cX7_entryOf 97 = .ok (.iinc 6 1, 3) := by decide +kernel
theorem dX7_entryOf_100 : decode cX7_entryOf 100 = .ok (.goto (-30), 3) := by decide +kernel
theorem dX7_entryOf_103 : decode cX7_entryOf 103 = .ok (.iload 4, 2) := by decide +kernel
theorem dX7_entryOf_105 : decode cX7_entryOf 105 = .ok (.ifCond .eq 10, 3) := by decide +kernel
theorem dX7_entryOf_108 : decode cX7_entryOf 108 = .ok (.iconst 0, 1) := by decide +kernel
theorem dX7_entryOf_109 : decode cX7_entryOf 109 = .ok (.iload 5, 2) := by decide +kernel
theorem dX7_entryOf_111 : decode cX7_entryOf 111 = .ok (.isub, 1) := by decide +kernel
theorem dX7_entryOf_112 : decode cX7_entryOf 112 = .ok (.goto 5, 3) := by decide +kernel
theorem dX7_entryOf_115 : decode cX7_entryOf 115 = .ok (.iload 5, 2) := by decide +kernel
theorem dX7_entryOf_117 : decode cX7_entryOf 117 = .ok (.istore 5, 2) := by decide +kernel
theorem dX7_entryOf_119 : decode cX7_entryOf 119 = .ok (.iload_n 1, 1) := by decide +kernel
theorem dX7_entryOf_120 : decode cX7_entryOf 120 = .ok (.iload 5, 2) := by decide +kernel
theorem dX7_entryOf_122 : decode cX7_entryOf 122 = .ok (.invokestatic 124, 3) := by decide +kernel
theorem dX7_entryOf_125 : decode cX7_entryOf 125 = .ok (.ifCond .ne 8, 3) := by decide +kernel
theorem dX7_entryOf_128 : decode cX7_entryOf 128 = .ok (.aload_n 0, 1) := by decide +kernel
theorem dX7_entryOf_129 : decode cX7_entryOf 129 = .ok (.invokevirtual 176, 3) := by decide +kernel
theorem dX7_entryOf_132 : decode cX7_entryOf 132 = .ok (.return_, 1) := by decide +kernel
theorem dX7_entryOf_133 : decode cX7_entryOf 133 = .ok (.aload_n 0, 1) := by decide +kernel
theorem dX7_entryOf_134 : decode cX7_entryOf 134 = .ok (.getfield 7, 3) := by decide +kernel
theorem dX7_entryOf_137 : decode cX7_entryOf 137 = .ok (.bipush 9, 2) := by decide +kernel
theorem dX7_entryOf_139 : decode cX7_entryOf 139 = .ok (.iload_n 1, 1) := by decide +kernel
theorem dX7_entryOf_140 : decode cX7_entryOf 140 = .ok (.imul, 1) := by decide +kernel
theorem dX7_entryOf_141 : decode cX7_entryOf 141 = .ok (.iconst 3, 1) := by decide +kernel
theorem dX7_entryOf_142 : decode cX7_entryOf 142 = .ok (.iload_n 2, 1) := by decide +kernel
theorem dX7_entryOf_143 : decode cX7_entryOf 143 = .ok (.imul, 1) := by decide +kernel
theorem dX7_entryOf_144 : decode cX7_entryOf 144 = .ok (.iadd, 1) := by decide +kernel
theorem dX7_entryOf_145 : decode cX7_entryOf 145 = .ok (.iload_n 3, 1) := by decide +kernel
theorem dX7_entryOf_146 : decode cX7_entryOf 146 = .ok (.iadd, 1) := by decide +kernel
theorem dX7_entryOf_147 : decode cX7_entryOf 147 = .ok (.iload 5, 2) := by decide +kernel
theorem dX7_entryOf_149 : decode cX7_entryOf 149 = .ok (.iastore, 1) := by decide +kernel
theorem dX7_entryOf_150 : decode cX7_entryOf 150 = .ok (.aload_n 0, 1) := by decide +kernel
theorem dX7_entryOf_151 : decode cX7_entryOf 151 = .ok (.invokevirtual 173, 3) := by decide +kernel
theorem dX7_entryOf_154 : decode cX7_entryOf 154 = .ok (.return_, 1) := by decide +kernel
theorem dX7_table_0 : decode cX7_table 0 = .ok (.aload_n 0, 1) := by decide +kernel
theorem dX7_table_1 : decode cX7_table 1 = .ok (.bipush 97, 2) := by decide +kernel
theorem dX7_table_3 : decode cX7_table 3 = .ok (.invokevirtual 170, 3) := by decide +kernel
theorem dX7_table_6 : decode cX7_table 6 = .ok (.ifCond .eq 7, 3) := by decide +kernel
theorem dX7_table_9 : decode cX7_table 9 = .ok (.iconst 0, 1) := by decide +kernel
theorem dX7_table_10 : decode cX7_table 10 = .ok (.goto 30, 3) := by decide +kernel
theorem dX7_table_13 : decode cX7_table 13 = .ok (.aload_n 0, 1) := by decide +kernel
theorem dX7_table_14 : decode cX7_table 14 = .ok (.bipush 98, 2) := by decide +kernel
theorem dX7_table_16 : decode cX7_table 16 = .ok (.invokevirtual 170, 3) := by decide +kernel
theorem dX7_table_19 : decode cX7_table 19 = .ok (.ifCond .eq 7, 3) := by decide +kernel
theorem dX7_table_22 : decode cX7_table 22 = .ok (.iconst 1, 1) := by decide +kernel
theorem dX7_table_23 : decode cX7_table 23 = .ok (.goto 17, 3) := by decide +kernel
theorem dX7_table_26 : decode cX7_table 26 = .ok (.aload_n 0, 1) := by decide +kernel
theorem dX7_table_27 : decode cX7_table 27 = .ok (.bipush 99, 2) := by decide +kernel
theorem dX7_table_29 : decode cX7_table 29 = .ok (.invokevirtual 170, 3) := by decide +kernel
theorem dX7_table_32 : decode cX7_table 32 = .ok (.ifCond .eq 7, 3) := by decide +kernel
theorem dX7_table_35 : decode cX7_table 35 = .ok (.iconst 2, 1) := by decide +kernel
theorem dX7_table_36 : decode cX7_table 36 = .ok (.goto 4, 3) := by decide +kernel
theorem dX7_table_39 : decode cX7_table 39 = .ok (.iconst (-1), 1) := by decide +kernel
theorem dX7_table_40 : decode cX7_table 40 = .ok (.istore_n 1, 1) := by decide +kernel
theorem dX7_table_41 : decode cX7_table 41 = .ok (.iload_n 1, 1) := by decide +kernel
theorem dX7_table_42 : decode cX7_table 42 = .ok (.ifCond .ge 8, 3) := by decide +kernel
theorem dX7_table_45 : decode cX7_table 45 = .ok (.aload_n 0, 1) := by decide +kernel
theorem dX7_table_46 : decode cX7_table 46 = .ok (.invokevirtual 176, 3) := by decide +kernel
theorem dX7_table_49 : decode cX7_table 49 = .ok (.return_, 1) := by decide +kernel
theorem dX7_table_50 : decode cX7_table 50 = .ok (.aload_n 0, 1) := by decide +kernel
theorem dX7_table_51 : decode cX7_table 51 = .ok (.invokevirtual 173, 3) := by decide +kernel
theorem dX7_table_54 : decode cX7_table 54 = .ok (.iconst 0, 1) := by decide +kernel
theorem dX7_table_55 : decode cX7_table 55 = .ok (.istore_n 2, 1) := by decide +kernel
theorem dX7_table_56 : decode cX7_table 56 = .ok (.iload_n 2, 1) := by decide +kernel
theorem dX7_table_57 : decode cX7_table 57 = .ok (.aload_n 0, 1) := by decide +kernel
theorem dX7_table_58 : decode cX7_table 58 = .ok (.iload_n 1, 1) := by decide +kernel
theorem dX7_table_59 : decode cX7_table 59 = .ok (.invokevirtual 103, 3) := by decide +kernel
theorem dX7_table_62 : decode cX7_table 62 = .ok (.if_icmp .ge 94, 3) := by decide +kernel
theorem dX7_table_65 : decode cX7_table 65 = .ok (.aload_n 0, 1) := by decide +kernel
theorem dX7_table_66 : decode cX7_table 66 = .ok (.getfield 167, 3) := by decide +kernel
theorem dX7_table_69 : decode cX7_table 69 = .ok (.ifCond .ge 87, 3) := by decide +kernel
theorem dX7_table_72 : decode cX7_table 72 = .ok (.iconst 0, 1) := by decide +kernel
theorem dX7_table_73 : decode cX7_table 73 = .ok (.istore_n 3, 1) := by decide +kernel
theorem dX7_table_74 : decode cX7_table 74 = .ok (.iload_n 3, 1) := by decide +kernel
theorem dX7_table_75 : decode cX7_table 75 = .ok (.aload_n 0, 1) := by decide +kernel
theorem dX7_table_76 : decode cX7_table 76 = .ok (.iload_n 1, 1) := by decide +kernel
theorem dX7_table_77 : decode cX7_table 77 = .ok (.invokevirtual 107, 3) := by decide +kernel
theorem dX7_table_80 : decode cX7_table 80 = .ok (.if_icmp .ge 23, 3) := by decide +kernel
theorem dX7_table_83 : decode cX7_table 83 = .ok (.aload_n 0, 1) := by decide +kernel
theorem dX7_table_84 : decode cX7_table 84 = .ok (.getfield 167, 3) := by decide +kernel
theorem dX7_table_87 : decode cX7_table 87 = .ok (.ifCond .ge 16, 3) := by decide +kernel
theorem dX7_table_90 : decode cX7_table 90 = .ok (.aload_n 0, 1) := by decide +kernel
theorem dX7_table_91 : decode cX7_table 91 = .ok (.iload_n 1, 1) := by decide +kernel
theorem dX7_table_92 : decode cX7_table 92 = .ok (.iload_n 2, 1) := by decide +kernel
theorem dX7_table_93 : decode cX7_table 93 = .ok (.iload_n 3, 1) := by decide +kernel
theorem dX7_table_94 : decode cX7_table 94 = .ok (.invokevirtual 179, 3) := by decide +kernel
theorem dX7_table_97 : decode cX7_table 97 = .ok (.iinc 3 1, 3) := by decide +kernel
theorem dX7_table_100 : decode cX7_table 100 = .ok (.goto (-26), 3) := by decide +kernel
theorem dX7_table_103 : decode cX7_table 103 = .ok (.aload_n 0, 1) := by decide +kernel
theorem dX7_table_104 : decode cX7_table 104 = .ok (.getfield 167, 3) := by decide +kernel
theorem dX7_table_107 : decode cX7_table 107 = .ok (.ifCond .ge 32, 3) := by decide +kernel
theorem dX7_table_110 : decode cX7_table 110 = .ok (.aload_n 0, 1) := by decide +kernel
theorem dX7_table_111 : decode cX7_table 111 = .ok (.iload_n 2, 1) := by decide +kernel
theorem dX7_table_112 : decode cX7_table 112 = .ok (.iconst 1, 1) := by decide +kernel
theorem dX7_table_113 : decode cX7_table 113 = .ok (.iadd, 1) := by decide +kernel
theorem dX7_table_114 : decode cX7_table 114 = .ok (.aload_n 0, 1) := by decide +kernel
theorem dX7_table_115 : decode cX7_table 115 = .ok (.iload_n 1, 1) := by decide +kernel
theorem dX7_table_116 : decode cX7_table 116 = .ok (.invokevirtual 103, 3) := by decide +kernel
theorem dX7_table_119 : decode cX7_table 119 = .ok (.if_icmp .ge 8, 3) := by decide +kernel
theorem dX7_table_122 : decode cX7_table 122 = .ok (.bipush 44, 2) := by decide +kernel
theorem dX7_table_124 : decode cX7_table 124 = .ok (.goto 5, 3) := by decide +kernel
theorem dX7_table_127 : decode cX7_table 127 = .ok (.bipush 59, 2) := by decide +kernel
theorem dX7_table_129 : decode cX7_table 129 = .ok (.invokevirtual 170, 3) := by decide +kernel
theorem dX7_table_132 : decode cX7_table 132 = .ok (.ifCond .ne 7, 3) := by decide +kernel
theorem dX7_table_135 : decode cX7_table 135 = .ok (.aload_n 0, 1) := by decide +kernel
theorem dX7_table_136 : decode cX7_table 136 = .ok (.invokevirtual 176, 3) := by decide +kernel
theorem dX7_table_139 : decode cX7_table 139 = .ok (.aload_n 0, 1) := by decide +kernel
theorem dX7_table_140 : decode cX7_table 140 = .ok (.getfield 167, 3) := by decide +kernel
theorem dX7_table_143 : decode cX7_table 143 = .ok (.ifCond .ge 7, 3) := by decide +kernel
theorem dX7_table_146 : decode cX7_table 146 = .ok (.aload_n 0, 1) := by decide +kernel
theorem dX7_table_147 : decode cX7_table 147 = .ok (.invokevirtual 173, 3) := by decide +kernel
theorem dX7_table_150 : decode cX7_table 150 = .ok (.iinc 2 1, 3) := by decide +kernel
theorem dX7_table_153 : decode cX7_table 153 = .ok (.goto (-97), 3) := by decide +kernel
theorem dX7_table_156 : decode cX7_table 156 = .ok (.aload_n 0, 1) := by decide +kernel
theorem dX7_table_157 : decode cX7_table 157 = .ok (.dup, 1) := by decide +kernel
theorem dX7_table_158 : decode cX7_table 158 = .ok (.getfield 183, 3) := by decide +kernel
theorem dX7_table_161 : decode cX7_table 161 = .ok (.iconst 1, 1) := by decide +kernel
theorem dX7_table_162 : decode cX7_table 162 = .ok (.iadd, 1) := by decide +kernel
theorem dX7_table_163 : decode cX7_table 163 = .ok (.putfield 183, 3) := by decide +kernel
theorem dX7_table_166 : decode cX7_table 166 = .ok (.return_, 1) := by decide +kernel
theorem dX7_saves_0 : decode cX7_saves 0 = .ok (.iconst 0, 1) := by decide +kernel
theorem dX7_saves_1 : decode cX7_saves 1 = .ok (.istore_n 3, 1) := by decide +kernel
theorem dX7_saves_2 : decode cX7_saves 2 = .ok (.iload_n 3, 1) := by decide +kernel
theorem dX7_saves_3 : decode cX7_saves 3 = .ok (.bipush 27, 2) := by decide +kernel
theorem dX7_saves_5 : decode cX7_saves 5 = .ok (.if_icmp .ge 15, 3) := by decide +kernel
theorem dX7_saves_8 : decode cX7_saves 8 = .ok (.aload_n 2, 1) := by decide +kernel
theorem dX7_saves_9 : decode cX7_saves 9 = .ok (.iload_n 3, 1) := by decide +kernel
theorem dX7_saves_10 : decode cX7_saves 10 = .ok (.aload_n 1, 1) := by decide +kernel
theorem dX7_saves_11 : decode cX7_saves 11 = .ok (.iload_n 3, 1) := by decide +kernel
theorem dX7_saves_12 : decode cX7_saves 12 = .ok (.iaload, 1) := by decide +kernel
theorem dX7_saves_13 : decode cX7_saves 13 = .ok (.iastore, 1) := by decide +kernel
theorem dX7_saves_14 : decode cX7_saves 14 = .ok (.iinc 3 1, 3) := by decide +kernel
theorem dX7_saves_17 : decode cX7_saves 17 = .ok (.goto (-15), 3) := by decide +kernel
theorem dX7_saves_20 : decode cX7_saves 20 = .ok (.return_, 1) := by decide +kernel
theorem dX7_text_0 : decode cX7_text 0 = .ok (.aload_n 0, 1) := by decide +kernel
theorem dX7_text_1 : decode cX7_text 1 = .ok (.aload_n 0, 1) := by decide +kernel
theorem dX7_text_2 : decode cX7_text 2 = .ok (.getfield 7, 3) := by decide +kernel
theorem dX7_text_5 : decode cX7_text 5 = .ok (.aload_n 0, 1) := by decide +kernel
theorem dX7_text_6 : decode cX7_text 6 = .ok (.getfield 16, 3) := by decide +kernel
theorem dX7_text_9 : decode cX7_text 9 = .ok (.invokevirtual 186, 3) := by decide +kernel
theorem dX7_text_12 : decode cX7_text 12 = .ok (.aload_n 0, 1) := by decide +kernel
theorem dX7_text_13 : decode cX7_text 13 = .ok (.iconst 0, 1) := by decide +kernel
theorem dX7_text_14 : decode cX7_text 14 = .ok (.putfield 154, 3) := by decide +kernel
theorem dX7_text_17 : decode cX7_text 17 = .ok (.aload_n 0, 1) := by decide +kernel
theorem dX7_text_18 : decode cX7_text 18 = .ok (.iconst (-1), 1) := by decide +kernel
theorem dX7_text_19 : decode cX7_text 19 = .ok (.putfield 167, 3) := by decide +kernel
theorem dX7_text_22 : decode cX7_text 22 = .ok (.aload_n 0, 1) := by decide +kernel
theorem dX7_text_23 : decode cX7_text 23 = .ok (.iconst 0, 1) := by decide +kernel
theorem dX7_text_24 : decode cX7_text 24 = .ok (.putfield 183, 3) := by decide +kernel
theorem dX7_text_27 : decode cX7_text 27 = .ok (.aload_n 0, 1) := by decide +kernel
theorem dX7_text_28 : decode cX7_text 28 = .ok (.invokevirtual 173, 3) := by decide +kernel
theorem dX7_text_31 : decode cX7_text 31 = .ok (.aload_n 0, 1) := by decide +kernel
theorem dX7_text_32 : decode cX7_text 32 = .ok (.getfield 167, 3) := by decide +kernel
theorem dX7_text_35 : decode cX7_text 35 = .ok (.ifCond .ge 21, 3) := by decide +kernel
theorem dX7_text_38 : decode cX7_text 38 = .ok (.aload_n 0, 1) := by decide +kernel
theorem dX7_text_39 : decode cX7_text 39 = .ok (.getfield 157, 3) := by decide +kernel
theorem dX7_text_42 : decode cX7_text 42 = .ok (.aload_n 0, 1) := by decide +kernel
theorem dX7_text_43 : decode cX7_text 43 = .ok (.getfield 151, 3) := by decide +kernel
theorem dX7_text_46 : decode cX7_text 46 = .ok (.if_icmp .ge 10, 3) := by decide +kernel
theorem dX7_text_49 : decode cX7_text 49 = .ok (.aload_n 0, 1) := by decide +kernel
theorem dX7_text_50 : decode cX7_text 50 = .ok (.invokevirtual 190, 3) := by decide +kernel
theorem dX7_text_53 : decode cX7_text 53 = .ok (.goto (-22), 3) := by decide +kernel
theorem dX7_text_56 : decode cX7_text 56 = .ok (.aload_n 0, 1) := by decide +kernel
theorem dX7_text_57 : decode cX7_text 57 = .ok (.iconst 0, 1) := by decide +kernel
theorem dX7_text_58 : decode cX7_text 58 = .ok (.putfield 151, 3) := by decide +kernel
theorem dX7_text_61 : decode cX7_text 61 = .ok (.aload_n 0, 1) := by decide +kernel
theorem dX7_text_62 : decode cX7_text 62 = .ok (.getfield 167, 3) := by decide +kernel
theorem dX7_text_65 : decode cX7_text 65 = .ok (.ifCond .ge 8, 3) := by decide +kernel
theorem dX7_text_68 : decode cX7_text 68 = .ok (.aload_n 0, 1) := by decide +kernel
theorem dX7_text_69 : decode cX7_text 69 = .ok (.getfield 183, 3) := by decide +kernel
theorem dX7_text_72 : decode cX7_text 72 = .ok (.ireturn, 1) := by decide +kernel
theorem dX7_text_73 : decode cX7_text 73 = .ok (.aload_n 0, 1) := by decide +kernel
theorem dX7_text_74 : decode cX7_text 74 = .ok (.aload_n 0, 1) := by decide +kernel
theorem dX7_text_75 : decode cX7_text 75 = .ok (.getfield 16, 3) := by decide +kernel
theorem dX7_text_78 : decode cX7_text 78 = .ok (.aload_n 0, 1) := by decide +kernel
theorem dX7_text_79 : decode cX7_text 79 = .ok (.getfield 7, 3) := by decide +kernel
theorem dX7_text_82 : decode cX7_text 82 = .ok (.invokevirtual 186, 3) := by decide +kernel
theorem dX7_text_85 : decode cX7_text 85 = .ok (.bipush (-100), 2) := by decide +kernel
theorem dX7_text_87 : decode cX7_text 87 = .ok (.aload_n 0, 1) := by decide +kernel
theorem dX7_text_88 : decode cX7_text 88 = .ok (.getfield 167, 3) := by decide +kernel
theorem dX7_text_91 : decode cX7_text 91 = .ok (.isub, 1) := by decide +kernel
theorem dX7_text_92 : decode cX7_text 92 = .ok (.ireturn, 1) := by decide +kernel
theorem dX7_isKind_0 : decode cX7_isKind 0 = .ok (.iload_n 0, 1) := by decide +kernel
theorem dX7_isKind_1 : decode cX7_isKind 1 = .ok (.i2l, 1) := by decide +kernel
theorem dX7_isKind_2 : decode cX7_isKind 2 = .ok (.lconst 0, 1) := by decide +kernel
theorem dX7_isKind_3 : decode cX7_isKind 3 = .ok (.ldc2_w 193, 3) := by decide +kernel
theorem dX7_isKind_6 : decode cX7_isKind 6 = .ok (.invokestatic 99, 3) := by decide +kernel
theorem dX7_isKind_9 : decode cX7_isKind 9 = .ok (.ireturn, 1) := by decide +kernel
theorem dX7_isUnder_0 : decode cX7_isUnder 0 = .ok (.iload_n 1, 1) := by decide +kernel
theorem dX7_isUnder_1 : decode cX7_isUnder 1 = .ok (.ifCond .eq 39, 3) := by decide +kernel
theorem dX7_isUnder_4 : decode cX7_isUnder 4 = .ok (.iload_n 0, 1) := by decide +kernel
theorem dX7_isUnder_5 : decode cX7_isUnder 5 = .ok (.iload_n 1, 1) := by decide +kernel
theorem dX7_isUnder_6 : decode cX7_isUnder 6 = .ok (.if_icmp .eq 34, 3) := by decide +kernel
theorem dX7_isUnder_9 : decode cX7_isUnder 9 = .ok (.iload_n 1, 1) := by decide +kernel
theorem dX7_isUnder_10 : decode cX7_isUnder 10 = .ok (.iconst 2, 1) := by decide +kernel
theorem dX7_isUnder_11 : decode cX7_isUnder 11 = .ok (.if_icmp .ne 8, 3) := by decide +kernel
theorem dX7_isUnder_14 : decode cX7_isUnder 14 = .ok (.iload_n 0, 1) := by decide +kernel
theorem dX7_isUnder_15 : decode cX7_isUnder 15 = .ok (.iconst 4, 1) := by decide +kernel
theorem dX7_isUnder_16 : decode cX7_isUnder 16 = .ok (.if_icmp .eq 24, 3) := by decide +kernel
theorem dX7_isUnder_19 : decode cX7_isUnder 19 = .ok (.iload_n 1, 1) := by decide +kernel
theorem dX7_isUnder_20 : decode cX7_isUnder 20 = .ok (.iconst 3, 1) := by decide +kernel
theorem dX7_isUnder_21 : decode cX7_isUnder 21 = .ok (.if_icmp .ne 8, 3) := by decide +kernel
theorem dX7_isUnder_24 : decode cX7_isUnder 24 = .ok (.iload_n 0, 1) := by decide +kernel
theorem dX7_isUnder_25 : decode cX7_isUnder 25 = .ok (.iconst 5, 1) := by decide +kernel
theorem dX7_isUnder_26 : decode cX7_isUnder 26 = .ok (.if_icmp .ge 14, 3) := by decide +kernel
theorem dX7_isUnder_29 : decode cX7_isUnder 29 = .ok (.iload_n 1, 1) := by decide +kernel
theorem dX7_isUnder_30 : decode cX7_isUnder 30 = .ok (.iconst 5, 1) := by decide +kernel
theorem dX7_isUnder_31 : decode cX7_isUnder 31 = .ok (.if_icmp .ne 13, 3) := by decide +kernel
theorem dX7_isUnder_34 : decode cX7_isUnder 34 = .ok (.iload_n 0, 1) := by decide +kernel
theorem dX7_isUnder_35 : decode cX7_isUnder 35 = .ok (.bipush 6, 2) := by decide +kernel
theorem dX7_isUnder_37 : decode cX7_isUnder 37 = .ok (.if_icmp .ne 7, 3) := by decide +kernel
theorem dX7_isUnder_40 : decode cX7_isUnder 40 = .ok (.iconst 1, 1) := by decide +kernel
theorem dX7_isUnder_41 : decode cX7_isUnder 41 = .ok (.goto 4, 3) := by decide +kernel
theorem dX7_isUnder_44 : decode cX7_isUnder 44 = .ok (.iconst 0, 1) := by decide +kernel
theorem dX7_isUnder_45 : decode cX7_isUnder 45 = .ok (.ireturn, 1) := by decide +kernel
theorem dX7_isEquation_0 : decode cX7_isEquation 0 = .ok (.iload_n 1, 1) := by decide +kernel
theorem dX7_isEquation_1 : decode cX7_isEquation 1 = .ok (.i2l, 1) := by decide +kernel
theorem dX7_isEquation_2 : decode cX7_isEquation 2 = .ok (.lconst 0, 1) := by decide +kernel
theorem dX7_isEquation_3 : decode cX7_isEquation 3 = .ok (.aload_n 0, 1) := by decide +kernel
theorem dX7_isEquation_4 : decode cX7_isEquation 4 = .ok (.getfield 195, 3) := by decide +kernel
theorem dX7_isEquation_7 : decode cX7_isEquation 7 = .ok (.iconst 1, 1) := by decide +kernel
theorem dX7_isEquation_8 : decode cX7_isEquation 8 = .ok (.isub, 1) := by decide +kernel
theorem dX7_isEquation_9 : decode cX7_isEquation 9 = .ok (.i2l, 1) := by decide +kernel
theorem dX7_isEquation_10 : decode cX7_isEquation 10 = .ok (.invokestatic 99, 3) := by decide +kernel
theorem dX7_isEquation_13 : decode cX7_isEquation 13 = .ok (.ireturn, 1) := by decide +kernel
theorem dX7_equation_0 : decode cX7_equation 0 = .ok (.iload_n 1, 1) := by decide +kernel
theorem dX7_equation_1 : decode cX7_equation 1 = .ok (.invokestatic 198, 3) := by decide +kernel
theorem dX7_equation_4 : decode cX7_equation 4 = .ok (.ifCond .eq 17, 3) := by decide +kernel
theorem dX7_equation_7 : decode cX7_equation 7 = .ok (.iload_n 2, 1) := by decide +kernel
theorem dX7_equation_8 : decode cX7_equation 8 = .ok (.i2l, 1) := by decide +kernel
theorem dX7_equation_9 : decode cX7_equation 9 = .ok (.ldc2_w 201, 3) := by decide +kernel
theorem dX7_equation_12 : decode cX7_equation 12 = .ok (.ldc2_w 97, 3) := by decide +kernel
theorem dX7_equation_15 : decode cX7_equation 15 = .ok (.invokestatic 99, 3) := by decide +kernel
theorem dX7_equation_18 : decode cX7_equation 18 = .ok (.ifCond .ne 5, 3) := by decide +kernel
theorem dX7_equation_21 : decode cX7_equation 21 = .ok (.iconst (-1), 1) := by decide +kernel
theorem dX7_equation_22 : decode cX7_equation 22 = .ok (.ireturn, 1) := by decide +kernel
theorem dX7_equation_23 : decode cX7_equation 23 = .ok (.aload_n 0, 1) := by decide +kernel
theorem dX7_equation_24 : decode cX7_equation 24 = .ok (.getfield 195, 3) := by decide +kernel
theorem dX7_equation_27 : decode cX7_equation 27 = .ok (.bipush 6, 2) := by decide +kernel
theorem dX7_equation_29 : decode cX7_equation 29 = .ok (.if_icmp .ne 6, 3) := by decide +kernel
theorem dX7_equation_32 : decode cX7_equation 32 = .ok (.bipush (-2), 2) := by decide +kernel
theorem dX7_equation_34 : decode cX7_equation 34 = .ok (.ireturn, 1) := by decide +kernel
theorem dX7_equation_35 : decode cX7_equation 35 = .ok (.aload_n 0, 1) := by decide +kernel
theorem dX7_equation_36 : decode cX7_equation 36 = .ok (.getfield 29, 3) := by decide +kernel
theorem dX7_equation_39 : decode cX7_equation 39 = .ok (.aload_n 0, 1) := by decide +kernel
theorem dX7_equation_40 : decode cX7_equation 40 = .ok (.getfield 195, 3) := by decide +kernel
theorem dX7_equation_43 : decode cX7_equation 43 = .ok (.iload_n 1, 1) := by decide +kernel
theorem dX7_equation_44 : decode cX7_equation 44 = .ok (.iastore, 1) := by decide +kernel
theorem dX7_equation_45 : decode cX7_equation 45 = .ok (.aload_n 0, 1) := by decide +kernel
theorem dX7_equation_46 : decode cX7_equation 46 = .ok (.getfield 32, 3) := by decide +kernel
theorem dX7_equation_49 : decode cX7_equation 49 = .ok (.aload_n 0, 1) := by decide +kernel
theorem dX7_equation_50 : decode cX7_equation 50 = .ok (.getfield 195, 3) := by decide +kernel
theorem dX7_equation_53 : decode cX7_equation 53 = .ok (.iload_n 2, 1) := by decide +kernel
theorem dX7_equation_54 : decode cX7_equation 54 = .ok (.iastore, 1) := by decide +kernel
theorem dX7_equation_55 : decode cX7_equation 55 = .ok (.aload_n 0, 1) := by decide +kernel
theorem dX7_equation_56 : decode cX7_equation 56 = .ok (.dup, 1) := by decide +kernel
theorem dX7_equation_57 : decode cX7_equation 57 = .ok (.getfield 195, 3) := by decide +kernel
theorem dX7_equation_60 : decode cX7_equation 60 = .ok (.iconst 1, 1) := by decide +kernel
theorem dX7_equation_61 : decode cX7_equation 61 = .ok (.iadd, 1) := by decide +kernel
theorem dX7_equation_62 : decode cX7_equation 62 = .ok (.putfield 195, 3) := by decide +kernel
theorem dX7_equation_65 : decode cX7_equation 65 = .ok (.aload_n 0, 1) := by decide +kernel
theorem dX7_equation_66 : decode cX7_equation 66 = .ok (.getfield 195, 3) := by decide +kernel
theorem dX7_equation_69 : decode cX7_equation 69 = .ok (.iconst 1, 1) := by decide +kernel
theorem dX7_equation_70 : decode cX7_equation 70 = .ok (.isub, 1) := by decide +kernel
theorem dX7_equation_71 : decode cX7_equation 71 = .ok (.ireturn, 1) := by decide +kernel
theorem dX7_change_0 : decode cX7_change 0 = .ok (.aload_n 0, 1) := by decide +kernel
theorem dX7_change_1 : decode cX7_change 1 = .ok (.iload_n 1, 1) := by decide +kernel
theorem dX7_change_2 : decode cX7_change 2 = .ok (.invokevirtual 203, 3) := by decide +kernel
theorem dX7_change_5 : decode cX7_change 5 = .ok (.ifCond .eq 24, 3) := by decide +kernel
theorem dX7_change_8 : decode cX7_change 8 = .ok (.iload_n 2, 1) := by decide +kernel
theorem dX7_change_9 : decode cX7_change 9 = .ok (.invokestatic 198, 3) := by decide +kernel
theorem dX7_change_12 : decode cX7_change 12 = .ok (.ifCond .eq 17, 3) := by decide +kernel
theorem dX7_change_15 : decode cX7_change 15 = .ok (.iload_n 3, 1) := by decide +kernel
theorem dX7_change_16 : decode cX7_change 16 = .ok (.i2l, 1) := by decide +kernel
theorem dX7_change_17 : decode cX7_change 17 = .ok (.ldc2_w 201, 3) := by decide +kernel
theorem dX7_change_20 : decode cX7_change 20 = .ok (.ldc2_w 97, 3) := by decide +kernel
theorem dX7_change_23 : decode cX7_change 23 = .ok (.invokestatic 99, 3) := by decide +kernel
theorem dX7_change_26 : decode cX7_change 26 = .ok (.ifCond .ne 5, 3) := by decide +kernel
theorem dX7_change_29 : decode cX7_change 29 = .ok (.iconst (-1), 1) := by decide +kernel
theorem dX7_change_30 : decode cX7_change 30 = .ok (.ireturn, 1) := by decide +kernel
theorem dX7_change_31 : decode cX7_change 31 = .ok (.aload_n 0, 1) := by decide +kernel
theorem dX7_change_32 : decode cX7_change 32 = .ok (.getfield 29, 3) := by decide +kernel
theorem dX7_change_35 : decode cX7_change 35 = .ok (.iload_n 1, 1) := by decide +kernel
theorem dX7_change_36 : decode cX7_change 36 = .ok (.iaload, 1) := by decide +kernel
theorem dX7_change_37 : decode cX7_change 37 = .ok (.istore 4, 2) := by decide +kernel
theorem dX7_change_39 : decode cX7_change 39 = .ok (.aload_n 0, 1) := by decide +kernel
theorem dX7_change_40 : decode cX7_change 40 = .ok (.getfield 29, 3) := by decide +kernel
theorem dX7_change_43 : decode cX7_change 43 = .ok (.iload_n 1, 1) := by decide +kernel
theorem dX7_change_44 : decode cX7_change 44 = .ok (.iload_n 2, 1) := by decide +kernel
theorem dX7_change_45 : decode cX7_change 45 = .ok (.iastore, 1) := by decide +kernel
theorem dX7_change_46 : decode cX7_change 46 = .ok (.aload_n 0, 1) := by decide +kernel
theorem dX7_change_47 : decode cX7_change 47 = .ok (.getfield 32, 3) := by decide +kernel
theorem dX7_change_50 : decode cX7_change 50 = .ok (.iload_n 1, 1) := by decide +kernel
theorem dX7_change_51 : decode cX7_change 51 = .ok (.iload_n 3, 1) := by decide +kernel
theorem dX7_change_52 : decode cX7_change 52 = .ok (.iastore, 1) := by decide +kernel
theorem dX7_change_53 : decode cX7_change 53 = .ok (.iload 4, 2) := by decide +kernel
theorem dX7_change_55 : decode cX7_change 55 = .ok (.ireturn, 1) := by decide +kernel
theorem dX7_isLike_0 : decode cX7_isLike 0 = .ok (.iload_n 1, 1) := by decide +kernel
theorem dX7_isLike_1 : decode cX7_isLike 1 = .ok (.iconst 1, 1) := by decide +kernel
theorem dX7_isLike_2 : decode cX7_isLike 2 = .ok (.if_icmp .le 14, 3) := by decide +kernel
theorem dX7_isLike_5 : decode cX7_isLike 5 = .ok (.aload_n 0, 1) := by decide +kernel
theorem dX7_isLike_6 : decode cX7_isLike 6 = .ok (.getfield 23, 3) := by decide +kernel
theorem dX7_isLike_9 : decode cX7_isLike 9 = .ok (.aload_n 0, 1) := by decide +kernel
theorem dX7_isLike_10 : decode cX7_isLike 10 = .ok (.getfield 19, 3) := by decide +kernel
theorem dX7_isLike_13 : decode cX7_isLike 13 = .ok (.if_icmp .ne 7, 3) := by decide +kernel
theorem dX7_isLike_16 : decode cX7_isLike 16 = .ok (.iconst 1, 1) := by decide +kernel
theorem dX7_isLike_17 : decode cX7_isLike 17 = .ok (.goto 4, 3) := by decide +kernel
theorem dX7_isLike_20 : decode cX7_isLike 20 = .ok (.iconst 0, 1) := by decide +kernel
theorem dX7_isLike_21 : decode cX7_isLike 21 = .ok (.ireturn, 1) := by decide +kernel
theorem dX7_rightOf_0 : decode cX7_rightOf 0 = .ok (.iload_n 1, 1) := by decide +kernel
theorem dX7_rightOf_1 : decode cX7_rightOf 1 = .ok (.ifCond .ne 13, 3) := by decide +kernel
theorem dX7_rightOf_4 : decode cX7_rightOf 4 = .ok (.aload_n 0, 1) := by decide +kernel
theorem dX7_rightOf_5 : decode cX7_rightOf 5 = .ok (.iconst 1, 1) := by decide +kernel
theorem dX7_rightOf_6 : decode cX7_rightOf 6 = .ok (.iload_n 2, 1) := by decide +kernel
theorem dX7_rightOf_7 : decode cX7_rightOf 7 = .ok (.iload_n 3, 1) := by decide +kernel
theorem dX7_rightOf_8 : decode cX7_rightOf 8 = .ok (.invokevirtual 128, 3) := by decide +kernel
theorem dX7_rightOf_11 : decode cX7_rightOf 11 = .ok (.goto 40, 3) := by decide +kernel
theorem dX7_rightOf_14 : decode cX7_rightOf 14 = .ok (.iload_n 1, 1) := by decide +kernel
theorem dX7_rightOf_15 : decode cX7_rightOf 15 = .ok (.iconst 1, 1) := by decide +kernel
theorem dX7_rightOf_16 : decode cX7_rightOf 16 = .ok (.if_icmp .ne 7, 3) := by decide +kernel
theorem dX7_rightOf_19 : decode cX7_rightOf 19 = .ok (.iconst 0, 1) := by decide +kernel
theorem dX7_rightOf_20 : decode cX7_rightOf 20 = .ok (.goto 31, 3) := by decide +kernel
theorem dX7_rightOf_23 : decode cX7_rightOf 23 = .ok (.iload_n 1, 1) := by decide +kernel
theorem dX7_rightOf_24 : decode cX7_rightOf 24 = .ok (.iconst 2, 1) := by decide +kernel
theorem dX7_rightOf_25 : decode cX7_rightOf 25 = .ok (.if_icmp .eq 8, 3) := by decide +kernel
theorem dX7_rightOf_28 : decode cX7_rightOf 28 = .ok (.iload_n 1, 1) := by decide +kernel
theorem dX7_rightOf_29 : decode cX7_rightOf 29 = .ok (.iconst 4, 1) := by decide +kernel
theorem dX7_rightOf_30 : decode cX7_rightOf 30 = .ok (.if_icmp .ne 14, 3) := by decide +kernel
theorem dX7_rightOf_33 : decode cX7_rightOf 33 = .ok (.aload_n 0, 1) := by decide +kernel
theorem dX7_rightOf_34 : decode cX7_rightOf 34 = .ok (.iconst 0, 1) := by decide +kernel
theorem dX7_rightOf_35 : decode cX7_rightOf 35 = .ok (.iload_n 2, 1) := by decide +kernel
theorem dX7_rightOf_36 : decode cX7_rightOf 36 = .ok (.iload_n 3, 1) := by decide +kernel
theorem dX7_rightOf_37 : decode cX7_rightOf 37 = .ok (.invokevirtual 128, 3) := by decide +kernel
theorem dX7_rightOf_40 : decode cX7_rightOf 40 = .ok (.ineg, 1) := by decide +kernel
theorem dX7_rightOf_41 : decode cX7_rightOf 41 = .ok (.goto 10, 3) := by decide +kernel
theorem dX7_rightOf_44 : decode cX7_rightOf 44 = .ok (.aload_n 0, 1) := by decide +kernel
theorem dX7_rightOf_45 : decode cX7_rightOf 45 = .ok (.iconst 0, 1) := by decide +kernel
theorem dX7_rightOf_46 : decode cX7_rightOf 46 = .ok (.iload_n 3, 1) := by decide +kernel
theorem dX7_rightOf_47 : decode cX7_rightOf 47 = .ok (.iload_n 2, 1) := by decide +kernel
theorem dX7_rightOf_48 : decode cX7_rightOf 48 = .ok (.invokevirtual 128, 3) := by decide +kernel
theorem dX7_rightOf_51 : decode cX7_rightOf 51 = .ok (.ireturn, 1) := by decide +kernel
theorem dX7_shaped_0 : decode cX7_shaped 0 = .ok (.iload_n 1, 1) := by decide +kernel
theorem dX7_shaped_1 : decode cX7_shaped 1 = .ok (.iload_n 3, 1) := by decide +kernel
theorem dX7_shaped_2 : decode cX7_shaped 2 = .ok (.if_icmp .ne 13, 3) := by decide +kernel
theorem dX7_shaped_5 : decode cX7_shaped 5 = .ok (.iload_n 2, 1) := by decide +kernel
theorem dX7_shaped_6 : decode cX7_shaped 6 = .ok (.iload 4, 2) := by decide +kernel
theorem dX7_shaped_8 : decode cX7_shaped 8 = .ok (.if_icmp .ne 7, 3) := by decide +kernel
theorem dX7_shaped_11 : decode cX7_shaped 11 = .ok (.iconst 1, 1) := by decide +kernel
theorem dX7_shaped_12 : decode cX7_shaped 12 = .ok (.goto 4, 3) := by decide +kernel
theorem dX7_shaped_15 : decode cX7_shaped 15 = .ok (.iconst 0, 1) := by decide +kernel
theorem dX7_shaped_16 : decode cX7_shaped 16 = .ok (.istore 5, 2) := by decide +kernel
theorem dX7_shaped_18 : decode cX7_shaped 18 = .ok (.iload_n 0, 1) := by decide +kernel
theorem dX7_shaped_19 : decode cX7_shaped 19 = .ok (.tableswitch 98 4 6 #[25, 41, 63], 25) := by decide +kernel
theorem dX7_shaped_44 : decode cX7_shaped 44 = .ok (.iload 5, 2) := by decide +kernel
theorem dX7_shaped_46 : decode cX7_shaped 46 = .ok (.ifCond .eq 12, 3) := by decide +kernel
theorem dX7_shaped_49 : decode cX7_shaped 49 = .ok (.iload_n 1, 1) := by decide +kernel
theorem dX7_shaped_50 : decode cX7_shaped 50 = .ok (.iload_n 2, 1) := by decide +kernel
theorem dX7_shaped_51 : decode cX7_shaped 51 = .ok (.if_icmp .ne 7, 3) := by decide +kernel
theorem dX7_shaped_54 : decode cX7_shaped 54 = .ok (.iconst 1, 1) := by decide +kernel
theorem dX7_shaped_55 : decode cX7_shaped 55 = .ok (.goto 4, 3) := by decide +kernel
theorem dX7_shaped_58 : decode cX7_shaped 58 = .ok (.iconst 0, 1) := by decide +kernel
theorem dX7_shaped_59 : decode cX7_shaped 59 = .ok (.ireturn, 1) := by decide +kernel
theorem dX7_shaped_60 : decode cX7_shaped 60 = .ok (.iload 5, 2) := by decide +kernel
theorem dX7_shaped_62 : decode cX7_shaped 62 = .ok (.ifCond .ne 14, 3) := by decide +kernel
theorem dX7_shaped_65 : decode cX7_shaped 65 = .ok (.iload_n 1, 1) := by decide +kernel
theorem dX7_shaped_66 : decode cX7_shaped 66 = .ok (.iload 4, 2) := by decide +kernel
theorem dX7_shaped_68 : decode cX7_shaped 68 = .ok (.if_icmp .ne 12, 3) := by decide +kernel
theorem dX7_shaped_71 : decode cX7_shaped 71 = .ok (.iload_n 2, 1) := by decide +kernel
theorem dX7_shaped_72 : decode cX7_shaped 72 = .ok (.iload_n 3, 1) := by decide +kernel
theorem dX7_shaped_73 : decode cX7_shaped 73 = .ok (.if_icmp .ne 7, 3) := by decide +kernel
theorem dX7_shaped_76 : decode cX7_shaped 76 = .ok (.iconst 1, 1) := by decide +kernel
theorem dX7_shaped_77 : decode cX7_shaped 77 = .ok (.goto 4, 3) := by decide +kernel
theorem dX7_shaped_80 : decode cX7_shaped 80 = .ok (.iconst 0, 1) := by decide +kernel
theorem dX7_shaped_81 : decode cX7_shaped 81 = .ok (.ireturn, 1) := by decide +kernel
theorem dX7_shaped_82 : decode cX7_shaped 82 = .ok (.iload_n 1, 1) := by decide +kernel
theorem dX7_shaped_83 : decode cX7_shaped 83 = .ok (.iload_n 2, 1) := by decide +kernel
theorem dX7_shaped_84 : decode cX7_shaped 84 = .ok (.if_icmp .ne 7, 3) := by decide +kernel
theorem dX7_shaped_87 : decode cX7_shaped 87 = .ok (.iconst 0, 1) := by decide +kernel
theorem dX7_shaped_88 : decode cX7_shaped 88 = .ok (.goto 28, 3) := by decide +kernel
theorem dX7_shaped_91 : decode cX7_shaped 91 = .ok (.iload 5, 2) := by decide +kernel
theorem dX7_shaped_93 : decode cX7_shaped 93 = .ok (.ifCond .eq 7, 3) := by decide +kernel
theorem dX7_shaped_96 : decode cX7_shaped 96 = .ok (.iconst 1, 1) := by decide +kernel
theorem dX7_shaped_97 : decode cX7_shaped 97 = .ok (.goto 19, 3) := by decide +kernel
theorem dX7_shaped_100 : decode cX7_shaped 100 = .ok (.iload_n 1, 1) := by decide +kernel
theorem dX7_shaped_101 : decode cX7_shaped 101 = .ok (.iload 4, 2) := by decide +kernel
theorem dX7_shaped_103 : decode cX7_shaped 103 = .ok (.if_icmp .ne 12, 3) := by decide +kernel
theorem dX7_shaped_106 : decode cX7_shaped 106 = .ok (.iload_n 2, 1) := by decide +kernel
theorem dX7_shaped_107 : decode cX7_shaped 107 = .ok (.iload_n 3, 1) := by decide +kernel
theorem dX7_shaped_108 : decode cX7_shaped 108 = .ok (.if_icmp .ne 7, 3) := by decide +kernel
theorem dX7_shaped_111 : decode cX7_shaped 111 = .ok (.iconst (-1), 1) := by decide +kernel
theorem dX7_shaped_112 : decode cX7_shaped 112 = .ok (.goto 4, 3) := by decide +kernel
theorem dX7_shaped_115 : decode cX7_shaped 115 = .ok (.iconst 0, 1) := by decide +kernel
theorem dX7_shaped_116 : decode cX7_shaped 116 = .ok (.ireturn, 1) := by decide +kernel
theorem dX7_shaped_117 : decode cX7_shaped 117 = .ok (.iload 5, 2) := by decide +kernel
theorem dX7_shaped_119 : decode cX7_shaped 119 = .ok (.ifCond .eq 7, 3) := by decide +kernel
theorem dX7_shaped_122 : decode cX7_shaped 122 = .ok (.iconst 1, 1) := by decide +kernel
theorem dX7_shaped_123 : decode cX7_shaped 123 = .ok (.goto 4, 3) := by decide +kernel
theorem dX7_shaped_126 : decode cX7_shaped 126 = .ok (.iconst 0, 1) := by decide +kernel
theorem dX7_shaped_127 : decode cX7_shaped 127 = .ok (.ireturn, 1) := by decide +kernel
theorem dX7_isUnknown_0 : decode cX7_isUnknown 0 = .ok (.iload_n 0, 1) := by decide +kernel
theorem dX7_isUnknown_1 : decode cX7_isUnknown 1 = .ok (.iconst 4, 1) := by decide +kernel
theorem dX7_isUnknown_2 : decode cX7_isUnknown 2 = .ok (.if_icmp .ne 16, 3) := by decide +kernel
theorem dX7_isUnknown_5 : decode cX7_isUnknown 5 = .ok (.iload_n 1, 1) := by decide +kernel
theorem dX7_isUnknown_6 : decode cX7_isUnknown 6 = .ok (.iload_n 2, 1) := by decide +kernel
theorem dX7_isUnknown_7 : decode cX7_isUnknown 7 = .ok (.if_icmp .ne 7, 3) := by decide +kernel
theorem dX7_isUnknown_10 : decode cX7_isUnknown 10 = .ok (.iconst 1, 1) := by decide +kernel
theorem dX7_isUnknown_11 : decode cX7_isUnknown 11 = .ok (.goto 41, 3) := by decide +kernel
theorem dX7_isUnknown_14 : decode cX7_isUnknown 14 = .ok (.iconst 0, 1) := by decide +kernel
theorem dX7_isUnknown_15 : decode cX7_isUnknown 15 = .ok (.goto 37, 3) := by decide +kernel
theorem dX7_isUnknown_18 : decode cX7_isUnknown 18 = .ok (.iload_n 0, 1) := by decide +kernel
theorem dX7_isUnknown_19 : decode cX7_isUnknown 19 = .ok (.iconst 5, 1) := by decide +kernel
theorem dX7_isUnknown_20 : decode cX7_isUnknown 20 = .ok (.if_icmp .ne 16, 3) := by decide +kernel
theorem dX7_isUnknown_23 : decode cX7_isUnknown 23 = .ok (.iload_n 2, 1) := by decide +kernel
theorem dX7_isUnknown_24 : decode cX7_isUnknown 24 = .ok (.iload_n 1, 1) := by decide +kernel
theorem dX7_isUnknown_25 : decode cX7_isUnknown 25 = .ok (.if_icmp .lt 7, 3) := by decide +kernel
theorem dX7_isUnknown_28 : decode cX7_isUnknown 28 = .ok (.iconst 1, 1) := by decide +kernel
theorem dX7_isUnknown_29 : decode cX7_isUnknown 29 = .ok (.goto 23, 3) := by decide +kernel
theorem dX7_isUnknown_32 : decode cX7_isUnknown 32 = .ok (.iconst 0, 1) := by decide +kernel
theorem dX7_isUnknown_33 : decode cX7_isUnknown 33 = .ok (.goto 19, 3) := by decide +kernel
theorem dX7_isUnknown_36 : decode cX7_isUnknown 36 = .ok (.iload_n 0, 1) := by decide +kernel
theorem dX7_isUnknown_37 : decode cX7_isUnknown 37 = .ok (.bipush 6, 2) := by decide +kernel
theorem dX7_isUnknown_39 : decode cX7_isUnknown 39 = .ok (.if_icmp .ne 8, 3) := by decide +kernel
theorem dX7_isUnknown_42 : decode cX7_isUnknown 42 = .ok (.iload_n 2, 1) := by decide +kernel
theorem dX7_isUnknown_43 : decode cX7_isUnknown 43 = .ok (.iload_n 1, 1) := by decide +kernel
theorem dX7_isUnknown_44 : decode cX7_isUnknown 44 = .ok (.if_icmp .le 7, 3) := by decide +kernel
theorem dX7_isUnknown_47 : decode cX7_isUnknown 47 = .ok (.iconst 1, 1) := by decide +kernel
theorem dX7_isUnknown_48 : decode cX7_isUnknown 48 = .ok (.goto 4, 3) := by decide +kernel
theorem dX7_isUnknown_51 : decode cX7_isUnknown 51 = .ok (.iconst 0, 1) := by decide +kernel
theorem dX7_isUnknown_52 : decode cX7_isUnknown 52 = .ok (.ireturn, 1) := by decide +kernel
theorem dX7_unknownsOf_0 : decode cX7_unknownsOf 0 = .ok (.iconst 0, 1) := by decide +kernel
theorem dX7_unknownsOf_1 : decode cX7_unknownsOf 1 = .ok (.istore_n 2, 1) := by decide +kernel
theorem dX7_unknownsOf_2 : decode cX7_unknownsOf 2 = .ok (.iconst 0, 1) := by decide +kernel
theorem dX7_unknownsOf_3 : decode cX7_unknownsOf 3 = .ok (.istore_n 3, 1) := by decide +kernel
theorem dX7_unknownsOf_4 : decode cX7_unknownsOf 4 = .ok (.iload_n 3, 1) := by decide +kernel
theorem dX7_unknownsOf_5 : decode cX7_unknownsOf 5 = .ok (.aload_n 0, 1) := by decide +kernel
theorem dX7_unknownsOf_6 : decode cX7_unknownsOf 6 = .ok (.getfield 19, 3) := by decide +kernel
theorem dX7_unknownsOf_9 : decode cX7_unknownsOf 9 = .ok (.aload_n 0, 1) := by decide +kernel
theorem dX7_unknownsOf_10 : decode cX7_unknownsOf 10 = .ok (.getfield 23, 3) := by decide +kernel
theorem dX7_unknownsOf_13 : decode cX7_unknownsOf 13 = .ok (.imul, 1) := by decide +kernel
theorem dX7_unknownsOf_14 : decode cX7_unknownsOf 14 = .ok (.if_icmp .ge 38, 3) := by decide +kernel
theorem dX7_unknownsOf_17 : decode cX7_unknownsOf 17 = .ok (.iload_n 1, 1) := by decide +kernel
theorem dX7_unknownsOf_18 : decode cX7_unknownsOf 18 = .ok (.iload_n 3, 1) := by decide +kernel
theorem dX7_unknownsOf_19 : decode cX7_unknownsOf 19 = .ok (.aload_n 0, 1) := by decide +kernel
theorem dX7_unknownsOf_20 : decode cX7_unknownsOf 20 = .ok (.getfield 23, 3) := by decide +kernel
theorem dX7_unknownsOf_23 : decode cX7_unknownsOf 23 = .ok (.idiv, 1) := by decide +kernel
theorem dX7_unknownsOf_24 : decode cX7_unknownsOf 24 = .ok (.iload_n 3, 1) := by decide +kernel
theorem dX7_unknownsOf_25 : decode cX7_unknownsOf 25 = .ok (.aload_n 0, 1) := by decide +kernel
theorem dX7_unknownsOf_26 : decode cX7_unknownsOf 26 = .ok (.getfield 23, 3) := by decide +kernel
theorem dX7_unknownsOf_29 : decode cX7_unknownsOf 29 = .ok (.irem, 1) := by decide +kernel
theorem dX7_unknownsOf_30 : decode cX7_unknownsOf 30 = .ok (.invokestatic 206, 3) := by decide +kernel
theorem dX7_unknownsOf_33 : decode cX7_unknownsOf 33 = .ok (.ifCond .eq 13, 3) := by decide +kernel
theorem dX7_unknownsOf_36 : decode cX7_unknownsOf 36 = .ok (.aload_n 0, 1) := by decide +kernel
theorem dX7_unknownsOf_37 : decode cX7_unknownsOf 37 = .ok (.getfield 45, 3) := by decide +kernel
theorem dX7_unknownsOf_40 : decode cX7_unknownsOf 40 = .ok (.iload_n 2, 1) := by decide +kernel
theorem dX7_unknownsOf_41 : decode cX7_unknownsOf 41 = .ok (.iload_n 3, 1) := by decide +kernel
theorem dX7_unknownsOf_42 : decode cX7_unknownsOf 42 = .ok (.iastore, 1) := by decide +kernel
theorem dX7_unknownsOf_43 : decode cX7_unknownsOf 43 = .ok (.iinc 2 1, 3) := by decide +kernel
theorem dX7_unknownsOf_46 : decode cX7_unknownsOf 46 = .ok (.iinc 3 1, 3) := by decide +kernel
theorem dX7_unknownsOf_49 : decode cX7_unknownsOf 49 = .ok (.goto (-45), 3) := by decide +kernel
theorem dX7_unknownsOf_52 : decode cX7_unknownsOf 52 = .ok (.iload_n 2, 1) := by decide +kernel
theorem dX7_unknownsOf_53 : decode cX7_unknownsOf 53 = .ok (.ireturn, 1) := by decide +kernel
theorem dX7_isFit_0 : decode cX7_isFit 0 = .ok (.aload_n 0, 1) := by decide +kernel
theorem dX7_isFit_1 : decode cX7_isFit 1 = .ok (.iload_n 1, 1) := by decide +kernel
theorem dX7_isFit_2 : decode cX7_isFit 2 = .ok (.invokevirtual 209, 3) := by decide +kernel
theorem dX7_isFit_5 : decode cX7_isFit 5 = .ok (.ifCond .eq 17, 3) := by decide +kernel
theorem dX7_isFit_8 : decode cX7_isFit 8 = .ok (.aload_n 0, 1) := by decide +kernel
theorem dX7_isFit_9 : decode cX7_isFit 9 = .ok (.iload_n 1, 1) := by decide +kernel
theorem dX7_isFit_10 : decode cX7_isFit 10 = .ok (.invokevirtual 212, 3) := by decide +kernel
theorem dX7_isFit_13 : decode cX7_isFit 13 = .ok (.bipush 6, 2) := by decide +kernel
theorem dX7_isFit_15 : decode cX7_isFit 15 = .ok (.if_icmp .gt 7, 3) := by decide +kernel
theorem dX7_isFit_18 : decode cX7_isFit 18 = .ok (.iconst 1, 1) := by decide +kernel
theorem dX7_isFit_19 : decode cX7_isFit 19 = .ok (.goto 4, 3) := by decide +kernel
theorem dX7_isFit_22 : decode cX7_isFit 22 = .ok (.iconst 0, 1) := by decide +kernel
theorem dX7_isFit_23 : decode cX7_isFit 23 = .ok (.ireturn, 1) := by decide +kernel
theorem dX7_times0_0 : decode cX7_times0 0 = .ok (.iload 4, 2) := by decide +kernel
theorem dX7_times0_2 : decode cX7_times0 2 = .ok (.iload 6, 2) := by decide +kernel
theorem dX7_times0_4 : decode cX7_times0 4 = .ok (.if_icmp .ne 14, 3) := by decide +kernel
theorem dX7_times0_7 : decode cX7_times0 7 = .ok (.aload_n 0, 1) := by decide +kernel
theorem dX7_times0_8 : decode cX7_times0 8 = .ok (.iconst 0, 1) := by decide +kernel
theorem dX7_times0_9 : decode cX7_times0 9 = .ok (.iload_n 3, 1) := by decide +kernel
theorem dX7_times0_10 : decode cX7_times0 10 = .ok (.iload 5, 2) := by decide +kernel
theorem dX7_times0_12 : decode cX7_times0 12 = .ok (.invokevirtual 128, 3) := by decide +kernel
theorem dX7_times0_15 : decode cX7_times0 15 = .ok (.goto 4, 3) := by decide +kernel
theorem dX7_times0_18 : decode cX7_times0 18 = .ok (.iconst 0, 1) := by decide +kernel
theorem dX7_times0_19 : decode cX7_times0 19 = .ok (.iload_n 3, 1) := by decide +kernel
theorem dX7_times0_20 : decode cX7_times0 20 = .ok (.iload 5, 2) := by decide +kernel
theorem dX7_times0_22 : decode cX7_times0 22 = .ok (.if_icmp .ne 14, 3) := by decide +kernel
theorem dX7_times0_25 : decode cX7_times0 25 = .ok (.iload 4, 2) := by decide +kernel
theorem dX7_times0_27 : decode cX7_times0 27 = .ok (.iload 6, 2) := by decide +kernel
theorem dX7_times0_29 : decode cX7_times0 29 = .ok (.if_icmp .ne 7, 3) := by decide +kernel
theorem dX7_times0_32 : decode cX7_times0 32 = .ok (.iload_n 2, 1) := by decide +kernel
theorem dX7_times0_33 : decode cX7_times0 33 = .ok (.goto 4, 3) := by decide +kernel
theorem dX7_times0_36 : decode cX7_times0 36 = .ok (.iconst 0, 1) := by decide +kernel
theorem dX7_times0_37 : decode cX7_times0 37 = .ok (.iadd, 1) := by decide +kernel
theorem dX7_times0_38 : decode cX7_times0 38 = .ok (.iload_n 3, 1) := by decide +kernel
theorem dX7_times0_39 : decode cX7_times0 39 = .ok (.iload 5, 2) := by decide +kernel
theorem dX7_times0_41 : decode cX7_times0 41 = .ok (.if_icmp .ne 15, 3) := by decide +kernel
theorem dX7_times0_44 : decode cX7_times0 44 = .ok (.aload_n 0, 1) := by decide +kernel
theorem dX7_times0_45 : decode cX7_times0 45 = .ok (.iload_n 1, 1) := by decide +kernel
theorem dX7_times0_46 : decode cX7_times0 46 = .ok (.iload 6, 2) := by decide +kernel
theorem dX7_times0_48 : decode cX7_times0 48 = .ok (.iload 4, 2) := by decide +kernel
theorem dX7_times0_50 : decode cX7_times0 50 = .ok (.invokevirtual 215, 3) := by decide +kernel
theorem dX7_times0_53 : decode cX7_times0 53 = .ok (.goto 4, 3) := by decide +kernel
theorem dX7_times0_56 : decode cX7_times0 56 = .ok (.iconst 0, 1) := by decide +kernel
theorem dX7_times0_57 : decode cX7_times0 57 = .ok (.iadd, 1) := by decide +kernel
theorem dX7_times0_58 : decode cX7_times0 58 = .ok (.ireturn, 1) := by decide +kernel
theorem dX7_takenBy_0 : decode cX7_takenBy 0 = .ok (.iconst 0, 1) := by decide +kernel
theorem dX7_takenBy_1 : decode cX7_takenBy 1 = .ok (.istore 6, 2) := by decide +kernel
theorem dX7_takenBy_3 : decode cX7_takenBy 3 = .ok (.iconst 0, 1) := by decide +kernel
theorem dX7_takenBy_4 : decode cX7_takenBy 4 = .ok (.istore 7, 2) := by decide +kernel
theorem dX7_takenBy_6 : decode cX7_takenBy 6 = .ok (.iload 7, 2) := by decide +kernel
theorem dX7_takenBy_8 : decode cX7_takenBy 8 = .ok (.aload_n 0, 1) := by decide +kernel
theorem dX7_takenBy_9 : decode cX7_takenBy 9 = .ok (.getfield 19, 3) := by decide +kernel
theorem dX7_takenBy_12 : decode cX7_takenBy 12 = .ok (.aload_n 0, 1) := by decide +kernel
theorem dX7_takenBy_13 : decode cX7_takenBy 13 = .ok (.getfield 23, 3) := by decide +kernel
theorem dX7_takenBy_16 : decode cX7_takenBy 16 = .ok (.imul, 1) := by decide +kernel
theorem dX7_takenBy_17 : decode cX7_takenBy 17 = .ok (.if_icmp .ge 104, 3) := by decide +kernel
theorem dX7_takenBy_20 : decode cX7_takenBy 20 = .ok (.iload_n 2, 1) := by decide +kernel
theorem dX7_takenBy_21 : decode cX7_takenBy 21 = .ok (.iload 7, 2) := by decide +kernel
theorem dX7_takenBy_23 : decode cX7_takenBy 23 = .ok (.aload_n 0, 1) := by decide +kernel
theorem dX7_takenBy_24 : decode cX7_takenBy 24 = .ok (.getfield 23, 3) := by decide +kernel
theorem dX7_takenBy_27 : decode cX7_takenBy 27 = .ok (.idiv, 1) := by decide +kernel
theorem dX7_takenBy_28 : decode cX7_takenBy 28 = .ok (.iload 7, 2) := by decide +kernel
theorem dX7_takenBy_30 : decode cX7_takenBy 30 = .ok (.aload_n 0, 1) := by decide +kernel
theorem dX7_takenBy_31 : decode cX7_takenBy 31 = .ok (.getfield 23, 3) := by decide +kernel
theorem dX7_takenBy_34 : decode cX7_takenBy 34 = .ok (.irem, 1) := by decide +kernel
theorem dX7_takenBy_35 : decode cX7_takenBy 35 = .ok (.aload_n 0, 1) := by decide +kernel
theorem dX7_takenBy_36 : decode cX7_takenBy 36 = .ok (.getfield 45, 3) := by decide +kernel
theorem dX7_takenBy_39 : decode cX7_takenBy 39 = .ok (.iload 5, 2) := by decide +kernel
theorem dX7_takenBy_41 : decode cX7_takenBy 41 = .ok (.iaload, 1) := by decide +kernel
theorem dX7_takenBy_42 : decode cX7_takenBy 42 = .ok (.aload_n 0, 1) := by decide +kernel
theorem dX7_takenBy_43 : decode cX7_takenBy 43 = .ok (.getfield 23, 3) := by decide +kernel
theorem dX7_takenBy_46 : decode cX7_takenBy 46 = .ok (.idiv, 1) := by decide +kernel
theorem dX7_takenBy_47 : decode cX7_takenBy 47 = .ok (.aload_n 0, 1) := by decide +kernel
theorem dX7_takenBy_48 : decode cX7_takenBy 48 = .ok (.getfield 45, 3) := by decide +kernel
theorem dX7_takenBy_51 : decode cX7_takenBy 51 = .ok (.iload 5, 2) := by decide +kernel
theorem dX7_takenBy_53 : decode cX7_takenBy 53 = .ok (.iaload, 1) := by decide +kernel
theorem dX7_takenBy_54 : decode cX7_takenBy 54 = .ok (.aload_n 0, 1) := by decide +kernel
theorem dX7_takenBy_55 : decode cX7_takenBy 55 = .ok (.getfield 23, 3) := by decide +kernel
theorem dX7_takenBy_58 : decode cX7_takenBy 58 = .ok (.irem, 1) := by decide +kernel
theorem dX7_takenBy_59 : decode cX7_takenBy 59 = .ok (.invokestatic 218, 3) := by decide +kernel
theorem dX7_takenBy_62 : decode cX7_takenBy 62 = .ok (.istore 8, 2) := by decide +kernel
theorem dX7_takenBy_64 : decode cX7_takenBy 64 = .ok (.iload 6, 2) := by decide +kernel
theorem dX7_takenBy_66 : decode cX7_takenBy 66 = .ok (.iload 8, 2) := by decide +kernel
theorem dX7_takenBy_68 : decode cX7_takenBy 68 = .ok (.ifCond .ne 7, 3) := by decide +kernel
theorem dX7_takenBy_71 : decode cX7_takenBy 71 = .ok (.iconst 0, 1) := by decide +kernel
theorem dX7_takenBy_72 : decode cX7_takenBy 72 = .ok (.goto 40, 3) := by decide +kernel
theorem dX7_takenBy_75 : decode cX7_takenBy 75 = .ok (.iload 8, 2) := by decide +kernel
theorem dX7_takenBy_77 : decode cX7_takenBy 77 = .ok (.aload_n 0, 1) := by decide +kernel
theorem dX7_takenBy_78 : decode cX7_takenBy 78 = .ok (.iload_n 1, 1) := by decide +kernel
theorem dX7_takenBy_79 : decode cX7_takenBy 79 = .ok (.iload_n 3, 1) := by decide +kernel
theorem dX7_takenBy_80 : decode cX7_takenBy 80 = .ok (.iload 4, 2) := by decide +kernel
theorem dX7_takenBy_82 : decode cX7_takenBy 82 = .ok (.aload_n 0, 1) := by decide +kernel
theorem dX7_takenBy_83 : decode cX7_takenBy 83 = .ok (.getfield 23, 3) := by decide +kernel
theorem dX7_takenBy_86 : decode cX7_takenBy 86 = .ok (.idiv, 1) := by decide +kernel
theorem dX7_takenBy_87 : decode cX7_takenBy 87 = .ok (.iload 4, 2) := by decide +kernel
theorem dX7_takenBy_89 : decode cX7_takenBy 89 = .ok (.aload_n 0, 1) := by decide +kernel
theorem dX7_takenBy_90 : decode cX7_takenBy 90 = .ok (.getfield 23, 3) := by decide +kernel
theorem dX7_takenBy_93 : decode cX7_takenBy 93 = .ok (.irem, 1) := by decide +kernel
theorem dX7_takenBy_94 : decode cX7_takenBy 94 = .ok (.iload 7, 2) := by decide +kernel
theorem dX7_takenBy_96 : decode cX7_takenBy 96 = .ok (.aload_n 0, 1) := by decide +kernel
theorem dX7_takenBy_97 : decode cX7_takenBy 97 = .ok (.getfield 23, 3) := by decide +kernel
theorem dX7_takenBy_100 : decode cX7_takenBy 100 = .ok (.idiv, 1) := by decide +kernel
theorem dX7_takenBy_101 : decode cX7_takenBy 101 = .ok (.iload 7, 2) := by decide +kernel
theorem dX7_takenBy_103 : decode cX7_takenBy 103 = .ok (.aload_n 0, 1) := by decide +kernel
theorem dX7_takenBy_104 : decode cX7_takenBy 104 = .ok (.getfield 23, 3) := by decide +kernel
theorem dX7_takenBy_107 : decode cX7_takenBy 107 = .ok (.irem, 1) := by decide +kernel
theorem dX7_takenBy_108 : decode cX7_takenBy 108 = .ok (.invokevirtual 222, 3) := by decide +kernel
theorem dX7_takenBy_111 : decode cX7_takenBy 111 = .ok (.imul, 1) := by decide +kernel
theorem dX7_takenBy_112 : decode cX7_takenBy 112 = .ok (.iadd, 1) := by decide +kernel
theorem dX7_takenBy_113 : decode cX7_takenBy 113 = .ok (.istore 6, 2) := by decide +kernel
theorem dX7_takenBy_115 : decode cX7_takenBy 115 = .ok (.iinc 7 1, 3) := by decide +kernel
theorem dX7_takenBy_118 : decode cX7_takenBy 118 = .ok (.goto (-112), 3) := by decide +kernel
theorem dX7_takenBy_121 : decode cX7_takenBy 121 = .ok (.iload 6, 2) := by decide +kernel
theorem dX7_takenBy_123 : decode cX7_takenBy 123 = .ok (.ireturn, 1) := by decide +kernel
theorem dX7_swaps_0 : decode cX7_swaps 0 = .ok (.aload_n 0, 1) := by decide +kernel
theorem dX7_swaps_1 : decode cX7_swaps 1 = .ok (.dup, 1) := by decide +kernel
theorem dX7_swaps_2 : decode cX7_swaps 2 = .ok (.getfield 226, 3) := by decide +kernel
theorem dX7_swaps_5 : decode cX7_swaps 5 = .ok (.iload_n 1, 1) := by decide +kernel
theorem dX7_swaps_6 : decode cX7_swaps 6 = .ok (.iload_n 2, 1) := by decide +kernel
theorem dX7_swaps_7 : decode cX7_swaps 7 = .ok (.if_icmp .ne 7, 3) := by decide +kernel
theorem dX7_swaps_10 : decode cX7_swaps 10 = .ok (.iconst 0, 1) := by decide +kernel
theorem dX7_swaps_11 : decode cX7_swaps 11 = .ok (.goto 4, 3) := by decide +kernel
theorem dX7_swaps_14 : decode cX7_swaps 14 = .ok (.iconst 1, 1) := by decide +kernel
theorem dX7_swaps_15 : decode cX7_swaps 15 = .ok (.iadd, 1) := by decide +kernel
theorem dX7_swaps_16 : decode cX7_swaps 16 = .ok (.putfield 226, 3) := by decide +kernel
theorem dX7_swaps_19 : decode cX7_swaps 19 = .ok (.iconst 0, 1) := by decide +kernel
theorem dX7_swaps_20 : decode cX7_swaps 20 = .ok (.istore_n 3, 1) := by decide +kernel
theorem dX7_swaps_21 : decode cX7_swaps 21 = .ok (.iload_n 3, 1) := by decide +kernel
theorem dX7_swaps_22 : decode cX7_swaps 22 = .ok (.aload_n 0, 1) := by decide +kernel
theorem dX7_swaps_23 : decode cX7_swaps 23 = .ok (.getfield 229, 3) := by decide +kernel
theorem dX7_swaps_26 : decode cX7_swaps 26 = .ok (.if_icmp .gt 57, 3) := by decide +kernel
theorem dX7_swaps_29 : decode cX7_swaps 29 = .ok (.aload_n 0, 1) := by decide +kernel
theorem dX7_swaps_30 : decode cX7_swaps 30 = .ok (.getfield 48, 3) := by decide +kernel
theorem dX7_swaps_33 : decode cX7_swaps 33 = .ok (.bipush 8, 2) := by decide +kernel
theorem dX7_swaps_35 : decode cX7_swaps 35 = .ok (.iload_n 1, 1) := by decide +kernel
theorem dX7_swaps_36 : decode cX7_swaps 36 = .ok (.imul, 1) := by decide +kernel
theorem dX7_swaps_37 : decode cX7_swaps 37 = .ok (.iload_n 3, 1) := by decide +kernel
theorem dX7_swaps_38 : decode cX7_swaps 38 = .ok (.iadd, 1) := by decide +kernel
theorem dX7_swaps_39 : decode cX7_swaps 39 = .ok (.laload, 1) := by decide +kernel
theorem dX7_swaps_40 : decode cX7_swaps 40 = .ok (.lstore 4, 2) := by decide +kernel
theorem dX7_swaps_42 : decode cX7_swaps 42 = .ok (.aload_n 0, 1) := by decide +kernel
theorem dX7_swaps_43 : decode cX7_swaps 43 = .ok (.getfield 48, 3) := by decide +kernel
theorem dX7_swaps_46 : decode cX7_swaps 46 = .ok (.bipush 8, 2) := by decide +kernel
theorem dX7_swaps_48 : decode cX7_swaps 48 = .ok (.iload_n 1, 1) := by decide +kernel
theorem dX7_swaps_49 : decode cX7_swaps 49 = .ok (.imul, 1) := by decide +kernel
theorem dX7_swaps_50 : decode cX7_swaps 50 = .ok (.iload_n 3, 1) := by decide +kernel
theorem dX7_swaps_51 : decode cX7_swaps 51 = .ok (.iadd, 1) := by decide +kernel
theorem dX7_swaps_52 : decode cX7_swaps 52 = .ok (.aload_n 0, 1) := by decide +kernel
theorem dX7_swaps_53 : decode cX7_swaps 53 = .ok (.getfield 48, 3) := by decide +kernel
theorem dX7_swaps_56 : decode cX7_swaps 56 = .ok (.bipush 8, 2) := by decide +kernel
theorem dX7_swaps_58 : decode cX7_swaps 58 = .ok (.iload_n 2, 1) := by decide +kernel
theorem dX7_swaps_59 : decode cX7_swaps 59 = .ok (.imul, 1) := by decide +kernel
theorem dX7_swaps_60 : decode cX7_swaps 60 = .ok (.iload_n 3, 1) := by decide +kernel
theorem dX7_swaps_61 : decode cX7_swaps 61 = .ok (.iadd, 1) := by decide +kernel
theorem dX7_swaps_62 : decode cX7_swaps 62 = .ok (.laload, 1) := by decide +kernel
theorem dX7_swaps_63 : decode cX7_swaps 63 = .ok (.lastore, 1) := by decide +kernel
theorem dX7_swaps_64 : decode cX7_swaps 64 = .ok (.aload_n 0, 1) := by decide +kernel
theorem dX7_swaps_65 : decode cX7_swaps 65 = .ok (.getfield 48, 3) := by decide +kernel
theorem dX7_swaps_68 : decode cX7_swaps 68 = .ok (.bipush 8, 2) := by decide +kernel
theorem dX7_swaps_70 : decode cX7_swaps 70 = .ok (.iload_n 2, 1) := by decide +kernel
theorem dX7_swaps_71 : decode cX7_swaps 71 = .ok (.imul, 1) := by decide +kernel
theorem dX7_swaps_72 : decode cX7_swaps 72 = .ok (.iload_n 3, 1) := by decide +kernel
theorem dX7_swaps_73 : decode cX7_swaps 73 = .ok (.iadd, 1) := by decide +kernel
theorem dX7_swaps_74 : decode cX7_swaps 74 = .ok (.lload 4, 2) := by decide +kernel
theorem dX7_swaps_76 : decode cX7_swaps 76 = .ok (.lastore, 1) := by decide +kernel
theorem dX7_swaps_77 : decode cX7_swaps 77 = .ok (.iinc 3 1, 3) := by decide +kernel
theorem dX7_swaps_80 : decode cX7_swaps 80 = .ok (.goto (-59), 3) := by decide +kernel
theorem dX7_swaps_83 : decode cX7_swaps 83 = .ok (.return_, 1) := by decide +kernel
theorem dX7_clears_0 : decode cX7_clears 0 = .ok (.aload_n 0, 1) := by decide +kernel
theorem dX7_clears_1 : decode cX7_clears 1 = .ok (.getfield 48, 3) := by decide +kernel
theorem dX7_clears_4 : decode cX7_clears 4 = .ok (.bipush 8, 2) := by decide +kernel
theorem dX7_clears_6 : decode cX7_clears 6 = .ok (.iload_n 1, 1) := by decide +kernel
theorem dX7_clears_7 : decode cX7_clears 7 = .ok (.imul, 1) := by decide +kernel
theorem dX7_clears_8 : decode cX7_clears 8 = .ok (.iload_n 2, 1) := by decide +kernel
theorem dX7_clears_9 : decode cX7_clears 9 = .ok (.iadd, 1) := by decide +kernel
theorem dX7_clears_10 : decode cX7_clears 10 = .ok (.laload, 1) := by decide +kernel
theorem dX7_clears_11 : decode cX7_clears 11 = .ok (.lstore_n 3, 1) := by decide +kernel
theorem dX7_clears_12 : decode cX7_clears 12 = .ok (.iconst 0, 1) := by decide +kernel
theorem dX7_clears_13 : decode cX7_clears 13 = .ok (.istore 5, 2) := by decide +kernel
theorem dX7_clears_15 : decode cX7_clears 15 = .ok (.iload 5, 2) := by decide +kernel
theorem dX7_clears_17 : decode cX7_clears 17 = .ok (.aload_n 0, 1) := by decide +kernel
theorem dX7_clears_18 : decode cX7_clears 18 = .ok (.getfield 232, 3) := by decide +kernel
theorem dX7_clears_21 : decode cX7_clears 21 = .ok (.if_icmp .ge 99, 3) := by decide +kernel
theorem dX7_clears_24 : decode cX7_clears 24 = .ok (.iload 5, 2) := by decide +kernel
theorem dX7_clears_26 : decode cX7_clears 26 = .ok (.iload_n 1, 1) := by decide +kernel
theorem dX7_clears_27 : decode cX7_clears 27 = .ok (.if_icmp .ne 6, 3) := by decide +kernel
theorem dX7_clears_30 : decode cX7_clears 30 = .ok (.goto 84, 3) := by decide +kernel
theorem dX7_clears_33 : decode cX7_clears 33 = .ok (.aload_n 0, 1) := by decide +kernel
theorem dX7_clears_34 : decode cX7_clears 34 = .ok (.getfield 48, 3) := by decide +kernel
theorem dX7_clears_37 : decode cX7_clears 37 = .ok (.bipush 8, 2) := by decide +kernel
theorem dX7_clears_39 : decode cX7_clears 39 = .ok (.iload 5, 2) := by decide +kernel
theorem dX7_clears_41 : decode cX7_clears 41 = .ok (.imul, 1) := by decide +kernel
theorem dX7_clears_42 : decode cX7_clears 42 = .ok (.iload_n 2, 1) := by decide +kernel
theorem dX7_clears_43 : decode cX7_clears 43 = .ok (.iadd, 1) := by decide +kernel
theorem dX7_clears_44 : decode cX7_clears 44 = .ok (.laload, 1) := by decide +kernel
theorem dX7_clears_45 : decode cX7_clears 45 = .ok (.lstore 6, 2) := by decide +kernel
theorem dX7_clears_47 : decode cX7_clears 47 = .ok (.iconst 0, 1) := by decide +kernel
theorem dX7_clears_48 : decode cX7_clears 48 = .ok (.istore 8, 2) := by decide +kernel
theorem dX7_clears_50 : decode cX7_clears 50 = .ok (.iload 8, 2) := by decide +kernel
theorem dX7_clears_52 : decode cX7_clears 52 = .ok (.aload_n 0, 1) := by decide +kernel
theorem dX7_clears_53 : decode cX7_clears 53 = .ok (.getfield 229, 3) := by decide +kernel
theorem dX7_clears_56 : decode cX7_clears 56 = .ok (.if_icmp .gt 58, 3) := by decide +kernel
theorem dX7_clears_59 : decode cX7_clears 59 = .ok (.aload_n 0, 1) := by decide +kernel
theorem dX7_clears_60 : decode cX7_clears 60 = .ok (.getfield 48, 3) := by decide +kernel
theorem dX7_clears_63 : decode cX7_clears 63 = .ok (.bipush 8, 2) := by decide +kernel
theorem dX7_clears_65 : decode cX7_clears 65 = .ok (.iload 5, 2) := by decide +kernel
theorem dX7_clears_67 : decode cX7_clears 67 = .ok (.imul, 1) := by decide +kernel
theorem dX7_clears_68 : decode cX7_clears 68 = .ok (.iload 8, 2) := by decide +kernel
theorem dX7_clears_70 : decode cX7_clears 70 = .ok (.iadd, 1) := by decide +kernel
theorem dX7_clears_71 : decode cX7_clears 71 = .ok (.lload_n 3, 1) := by decide +kernel
theorem dX7_clears_72 : decode cX7_clears 72 = .ok (.aload_n 0, 1) := by decide +kernel
theorem dX7_clears_73 : decode cX7_clears 73 = .ok (.getfield 48, 3) := by decide +kernel
theorem dX7_clears_76 : decode cX7_clears 76 = .ok (.bipush 8, 2) := by decide +kernel
theorem dX7_clears_78 : decode cX7_clears 78 = .ok (.iload 5, 2) := by decide +kernel
theorem dX7_clears_80 : decode cX7_clears 80 = .ok (.imul, 1) := by decide +kernel
theorem dX7_clears_81 : decode cX7_clears 81 = .ok (.iload 8, 2) := by decide +kernel
theorem dX7_clears_83 : decode cX7_clears 83 = .ok (.iadd, 1) := by decide +kernel
theorem dX7_clears_84 : decode cX7_clears 84 = .ok (.laload, 1) := by decide +kernel
theorem dX7_clears_85 : decode cX7_clears 85 = .ok (.lmul, 1) := by decide +kernel
theorem dX7_clears_86 : decode cX7_clears 86 = .ok (.lload 6, 2) := by decide +kernel
theorem dX7_clears_88 : decode cX7_clears 88 = .ok (.aload_n 0, 1) := by decide +kernel
theorem dX7_clears_89 : decode cX7_clears 89 = .ok (.getfield 48, 3) := by decide +kernel
theorem dX7_clears_92 : decode cX7_clears 92 = .ok (.bipush 8, 2) := by decide +kernel
theorem dX7_clears_94 : decode cX7_clears 94 = .ok (.iload_n 1, 1) := by decide +kernel
theorem dX7_clears_95 : decode cX7_clears 95 = .ok (.imul, 1) := by decide +kernel
theorem dX7_clears_96 : decode cX7_clears 96 = .ok (.iload 8, 2) := by decide +kernel
theorem dX7_clears_98 : decode cX7_clears 98 = .ok (.iadd, 1) := by decide +kernel
theorem dX7_clears_99 : decode cX7_clears 99 = .ok (.laload, 1) := by decide +kernel
theorem dX7_clears_100 : decode cX7_clears 100 = .ok (.lmul, 1) := by decide +kernel
theorem dX7_clears_101 : decode cX7_clears 101 = .ok (.lsub, 1) := by decide +kernel
theorem dX7_clears_102 : decode cX7_clears 102 = .ok (.aload_n 0, 1) := by decide +kernel
theorem dX7_clears_103 : decode cX7_clears 103 = .ok (.getfield 235, 3) := by decide +kernel
theorem dX7_clears_106 : decode cX7_clears 106 = .ok (.ldiv, 1) := by decide +kernel
theorem dX7_clears_107 : decode cX7_clears 107 = .ok (.lastore, 1) := by decide +kernel
theorem dX7_clears_108 : decode cX7_clears 108 = .ok (.iinc 8 1, 3) := by decide +kernel
theorem dX7_clears_111 : decode cX7_clears 111 = .ok (.goto (-61), 3) := by decide +kernel
theorem dX7_clears_114 : decode cX7_clears 114 = .ok (.iinc 5 1, 3) := by decide +kernel
theorem dX7_clears_117 : decode cX7_clears 117 = .ok (.goto (-102), 3) := by decide +kernel
theorem dX7_clears_120 : decode cX7_clears 120 = .ok (.aload_n 0, 1) := by decide +kernel
theorem dX7_clears_121 : decode cX7_clears 121 = .ok (.lload_n 3, 1) := by decide +kernel
theorem dX7_clears_122 : decode cX7_clears 122 = .ok (.putfield 235, 3) := by decide +kernel
theorem dX7_clears_125 : decode cX7_clears 125 = .ok (.return_, 1) := by decide +kernel
theorem dX7_works_0 : decode cX7_works 0 = .ok (.aload_n 0, 1) := by decide +kernel
theorem dX7_works_1 : decode cX7_works 1 = .ok (.iconst 0, 1) := by decide +kernel
theorem dX7_works_2 : decode cX7_works 2 = .ok (.putfield 239, 3) := by decide +kernel
theorem dX7_works_5 : decode cX7_works 5 = .ok (.aload_n 0, 1) := by decide +kernel
theorem dX7_works_6 : decode cX7_works 6 = .ok (.iconst 0, 1) := by decide +kernel
theorem dX7_works_7 : decode cX7_works 7 = .ok (.putfield 226, 3) := by decide +kernel
theorem dX7_works_10 : decode cX7_works 10 = .ok (.aload_n 0, 1) := by decide +kernel
theorem dX7_works_11 : decode cX7_works 11 = .ok (.lconst 1, 1) := by decide +kernel
theorem dX7_works_12 : decode cX7_works 12 = .ok (.putfield 235, 3) := by decide +kernel
theorem dX7_works_15 : decode cX7_works 15 = .ok (.iconst 0, 1) := by decide +kernel
theorem dX7_works_16 : decode cX7_works 16 = .ok (.istore_n 1, 1) := by decide +kernel
theorem dX7_works_17 : decode cX7_works 17 = .ok (.iload_n 1, 1) := by decide +kernel
theorem dX7_works_18 : decode cX7_works 18 = .ok (.aload_n 0, 1) := by decide +kernel
theorem dX7_works_19 : decode cX7_works 19 = .ok (.getfield 229, 3) := by decide +kernel
theorem dX7_works_22 : decode cX7_works 22 = .ok (.if_icmp .ge 115, 3) := by decide +kernel
theorem dX7_works_25 : decode cX7_works 25 = .ok (.aload_n 0, 1) := by decide +kernel
theorem dX7_works_26 : decode cX7_works 26 = .ok (.getfield 239, 3) := by decide +kernel
theorem dX7_works_29 : decode cX7_works 29 = .ok (.istore_n 2, 1) := by decide +kernel
theorem dX7_works_30 : decode cX7_works 30 = .ok (.iload_n 2, 1) := by decide +kernel
theorem dX7_works_31 : decode cX7_works 31 = .ok (.aload_n 0, 1) := by decide +kernel
theorem dX7_works_32 : decode cX7_works 32 = .ok (.getfield 232, 3) := by decide +kernel
theorem dX7_works_35 : decode cX7_works 35 = .ok (.if_icmp .ge 25, 3) := by decide +kernel
theorem dX7_works_38 : decode cX7_works 38 = .ok (.aload_n 0, 1) := by decide +kernel
theorem dX7_works_39 : decode cX7_works 39 = .ok (.getfield 48, 3) := by decide +kernel
theorem dX7_works_42 : decode cX7_works 42 = .ok (.bipush 8, 2) := by decide +kernel
theorem dX7_works_44 : decode cX7_works 44 = .ok (.iload_n 2, 1) := by decide +kernel
theorem dX7_works_45 : decode cX7_works 45 = .ok (.imul, 1) := by decide +kernel
theorem dX7_works_46 : decode cX7_works 46 = .ok (.iload_n 1, 1) := by decide +kernel
theorem dX7_works_47 : decode cX7_works 47 = .ok (.iadd, 1) := by decide +kernel
theorem dX7_works_48 : decode cX7_works 48 = .ok (.laload, 1) := by decide +kernel
theorem dX7_works_49 : decode cX7_works 49 = .ok (.lconst 0, 1) := by decide +kernel
theorem dX7_works_50 : decode cX7_works 50 = .ok (.lcmp, 1) := by decide +kernel
theorem dX7_works_51 : decode cX7_works 51 = .ok (.ifCond .ne 9, 3) := by decide +kernel
theorem dX7_works_54 : decode cX7_works 54 = .ok (.iinc 2 1, 3) := by decide +kernel
theorem dX7_works_57 : decode cX7_works 57 = .ok (.goto (-27), 3) := by decide +kernel
theorem dX7_works_60 : decode cX7_works 60 = .ok (.aload_n 0, 1) := by decide +kernel
theorem dX7_works_61 : decode cX7_works 61 = .ok (.getfield 55, 3) := by decide +kernel
theorem dX7_works_64 : decode cX7_works 64 = .ok (.iload_n 1, 1) := by decide +kernel
theorem dX7_works_65 : decode cX7_works 65 = .ok (.iload_n 2, 1) := by decide +kernel
theorem dX7_works_66 : decode cX7_works 66 = .ok (.aload_n 0, 1) := by decide +kernel
theorem dX7_works_67 : decode cX7_works 67 = .ok (.getfield 232, 3) := by decide +kernel
theorem dX7_works_70 : decode cX7_works 70 = .ok (.if_icmp .ge 10, 3) := by decide +kernel
theorem dX7_works_73 : decode cX7_works 73 = .ok (.aload_n 0, 1) := by decide +kernel
theorem dX7_works_74 : decode cX7_works 74 = .ok (.getfield 239, 3) := by decide +kernel
theorem dX7_works_77 : decode cX7_works 77 = .ok (.goto 4, 3) := by decide +kernel
theorem dX7_works_80 : decode cX7_works 80 = .ok (.iconst (-1), 1) := by decide +kernel
theorem dX7_works_81 : decode cX7_works 81 = .ok (.iastore, 1) := by decide +kernel
theorem dX7_works_82 : decode cX7_works 82 = .ok (.iload_n 2, 1) := by decide +kernel
theorem dX7_works_83 : decode cX7_works 83 = .ok (.aload_n 0, 1) := by decide +kernel
theorem dX7_works_84 : decode cX7_works 84 = .ok (.getfield 232, 3) := by decide +kernel
theorem dX7_works_87 : decode cX7_works 87 = .ok (.if_icmp .ne 6, 3) := by decide +kernel
theorem dX7_works_90 : decode cX7_works 90 = .ok (.goto 41, 3) := by decide +kernel
theorem dX7_works_93 : decode cX7_works 93 = .ok (.aload_n 0, 1) := by decide +kernel
theorem dX7_works_94 : decode cX7_works 94 = .ok (.iload_n 2, 1) := by decide +kernel
theorem dX7_works_95 : decode cX7_works 95 = .ok (.aload_n 0, 1) := by decide +kernel
theorem dX7_works_96 : decode cX7_works 96 = .ok (.getfield 239, 3) := by decide +kernel
theorem dX7_works_99 : decode cX7_works 99 = .ok (.invokevirtual 242, 3) := by decide +kernel
theorem dX7_works_102 : decode cX7_works 102 = .ok (.aload_n 0, 1) := by decide +kernel
theorem dX7_works_103 : decode cX7_works 103 = .ok (.aload_n 0, 1) := by decide +kernel
theorem dX7_works_104 : decode cX7_works 104 = .ok (.getfield 239, 3) := by decide +kernel
theorem dX7_works_107 : decode cX7_works 107 = .ok (.iload_n 1, 1) := by decide +kernel
theorem dX7_works_108 : decode cX7_works 108 = .ok (.invokevirtual 246, 3) := by decide +kernel
theorem dX7_works_111 : decode cX7_works 111 = .ok (.aload_n 0, 1) := by decide +kernel
theorem dX7_works_112 : decode cX7_works 112 = .ok (.getfield 52, 3) := by decide +kernel
theorem dX7_works_115 : decode cX7_works 115 = .ok (.aload_n 0, 1) := by decide +kernel
theorem dX7_works_116 : decode cX7_works 116 = .ok (.getfield 239, 3) := by decide +kernel
theorem dX7_works_119 : decode cX7_works 119 = .ok (.iload_n 1, 1) := by decide +kernel
theorem dX7_works_120 : decode cX7_works 120 = .ok (.iastore, 1) := by decide +kernel
theorem dX7_works_121 : decode cX7_works 121 = .ok (.aload_n 0, 1) := by decide +kernel
theorem dX7_works_122 : decode cX7_works 122 = .ok (.dup, 1) := by decide +kernel
theorem dX7_works_123 : decode cX7_works 123 = .ok (.getfield 239, 3) := by decide +kernel
theorem dX7_works_126 : decode cX7_works 126 = .ok (.iconst 1, 1) := by decide +kernel
theorem dX7_works_127 : decode cX7_works 127 = .ok (.iadd, 1) := by decide +kernel
theorem dX7_works_128 : decode cX7_works 128 = .ok (.putfield 239, 3) := by decide +kernel
theorem dX7_works_131 : decode cX7_works 131 = .ok (.iinc 1 1, 3) := by decide +kernel
theorem dX7_works_134 : decode cX7_works 134 = .ok (.goto (-117), 3) := by decide +kernel
theorem dX7_works_137 : decode cX7_works 137 = .ok (.return_, 1) := by decide +kernel
theorem dX7_isSolved_0 : decode cX7_isSolved 0 = .ok (.aload_n 0, 1) := by decide +kernel
theorem dX7_isSolved_1 : decode cX7_isSolved 1 = .ok (.getfield 239, 3) := by decide +kernel
theorem dX7_isSolved_4 : decode cX7_isSolved 4 = .ok (.istore_n 1, 1) := by decide +kernel
theorem dX7_isSolved_5 : decode cX7_isSolved 5 = .ok (.iload_n 1, 1) := by decide +kernel
theorem dX7_isSolved_6 : decode cX7_isSolved 6 = .ok (.aload_n 0, 1) := by decide +kernel
theorem dX7_isSolved_7 : decode cX7_isSolved 7 = .ok (.getfield 232, 3) := by decide +kernel
theorem dX7_isSolved_10 : decode cX7_isSolved 10 = .ok (.if_icmp .ge 30, 3) := by decide +kernel
theorem dX7_isSolved_13 : decode cX7_isSolved 13 = .ok (.aload_n 0, 1) := by decide +kernel
theorem dX7_isSolved_14 : decode cX7_isSolved 14 = .ok (.getfield 48, 3) := by decide +kernel
theorem dX7_isSolved_17 : decode cX7_isSolved 17 = .ok (.bipush 8, 2) := by decide +kernel
theorem dX7_isSolved_19 : decode cX7_isSolved 19 = .ok (.iload_n 1, 1) := by decide +kernel
theorem dX7_isSolved_20 : decode cX7_isSolved 20 = .ok (.imul, 1) := by decide +kernel
theorem dX7_isSolved_21 : decode cX7_isSolved 21 = .ok (.aload_n 0, 1) := by decide +kernel
theorem dX7_isSolved_22 : decode cX7_isSolved 22 = .ok (.getfield 229, 3) := by decide +kernel
theorem dX7_isSolved_25 : decode cX7_isSolved 25 = .ok (.iadd, 1) := by decide +kernel
theorem dX7_isSolved_26 : decode cX7_isSolved 26 = .ok (.laload, 1) := by decide +kernel
theorem dX7_isSolved_27 : decode cX7_isSolved 27 = .ok (.lconst 0, 1) := by decide +kernel
theorem dX7_isSolved_28 : decode cX7_isSolved 28 = .ok (.lcmp, 1) := by decide +kernel
theorem dX7_isSolved_29 : decode cX7_isSolved 29 = .ok (.ifCond .eq 5, 3) := by decide +kernel
theorem dX7_isSolved_32 : decode cX7_isSolved 32 = .ok (.iconst 0, 1) := by decide +kernel
theorem dX7_isSolved_33 : decode cX7_isSolved 33 = .ok (.ireturn, 1) := by decide +kernel
theorem dX7_isSolved_34 : decode cX7_isSolved 34 = .ok (.iinc 1 1, 3) := by decide +kernel
theorem dX7_isSolved_37 : decode cX7_isSolved 37 = .ok (.goto (-32), 3) := by decide +kernel
theorem dX7_isSolved_40 : decode cX7_isSolved 40 = .ok (.iconst 1, 1) := by decide +kernel
theorem dX7_isSolved_41 : decode cX7_isSolved 41 = .ok (.ireturn, 1) := by decide +kernel
theorem dX7_sets_0 : decode cX7_sets 0 = .ok (.aload_n 0, 1) := by decide +kernel
theorem dX7_sets_1 : decode cX7_sets 1 = .ok (.iload_n 2, 1) := by decide +kernel
theorem dX7_sets_2 : decode cX7_sets 2 = .ok (.invokevirtual 212, 3) := by decide +kernel
theorem dX7_sets_5 : decode cX7_sets 5 = .ok (.istore 5, 2) := by decide +kernel
theorem dX7_sets_7 : decode cX7_sets 7 = .ok (.iload 4, 2) := by decide +kernel
theorem dX7_sets_9 : decode cX7_sets 9 = .ok (.aload_n 0, 1) := by decide +kernel
theorem dX7_sets_10 : decode cX7_sets 10 = .ok (.getfield 23, 3) := by decide +kernel
theorem dX7_sets_13 : decode cX7_sets 13 = .ok (.imul, 1) := by decide +kernel
theorem dX7_sets_14 : decode cX7_sets 14 = .ok (.istore 6, 2) := by decide +kernel
theorem dX7_sets_16 : decode cX7_sets 16 = .ok (.aload_n 0, 1) := by decide +kernel
theorem dX7_sets_17 : decode cX7_sets 17 = .ok (.iload 5, 2) := by decide +kernel
theorem dX7_sets_19 : decode cX7_sets 19 = .ok (.iload 4, 2) := by decide +kernel
theorem dX7_sets_21 : decode cX7_sets 21 = .ok (.ifCond .ne 7, 3) := by decide +kernel
theorem dX7_sets_24 : decode cX7_sets 24 = .ok (.iconst 0, 1) := by decide +kernel
theorem dX7_sets_25 : decode cX7_sets 25 = .ok (.goto 5, 3) := by decide +kernel
theorem dX7_sets_28 : decode cX7_sets 28 = .ok (.iload 6, 2) := by decide +kernel
theorem dX7_sets_30 : decode cX7_sets 30 = .ok (.isub, 1) := by decide +kernel
theorem dX7_sets_31 : decode cX7_sets 31 = .ok (.putfield 229, 3) := by decide +kernel
theorem dX7_sets_34 : decode cX7_sets 34 = .ok (.aload_n 0, 1) := by decide +kernel
theorem dX7_sets_35 : decode cX7_sets 35 = .ok (.aload_n 0, 1) := by decide +kernel
theorem dX7_sets_36 : decode cX7_sets 36 = .ok (.getfield 19, 3) := by decide +kernel
theorem dX7_sets_39 : decode cX7_sets 39 = .ok (.aload_n 0, 1) := by decide +kernel
theorem dX7_sets_40 : decode cX7_sets 40 = .ok (.getfield 23, 3) := by decide +kernel
theorem dX7_sets_43 : decode cX7_sets 43 = .ok (.imul, 1) := by decide +kernel
theorem dX7_sets_44 : decode cX7_sets 44 = .ok (.iload 6, 2) := by decide +kernel
theorem dX7_sets_46 : decode cX7_sets 46 = .ok (.isub, 1) := by decide +kernel
theorem dX7_sets_47 : decode cX7_sets 47 = .ok (.putfield 232, 3) := by decide +kernel
theorem dX7_sets_50 : decode cX7_sets 50 = .ok (.iconst 0, 1) := by decide +kernel
theorem dX7_sets_51 : decode cX7_sets 51 = .ok (.istore 7, 2) := by decide +kernel
theorem dX7_sets_53 : decode cX7_sets 53 = .ok (.iload 7, 2) := by decide +kernel
theorem dX7_sets_55 : decode cX7_sets 55 = .ok (.aload_n 0, 1) := by decide +kernel
theorem dX7_sets_56 : decode cX7_sets 56 = .ok (.getfield 232, 3) := by decide +kernel
theorem dX7_sets_59 : decode cX7_sets 59 = .ok (.if_icmp .ge 108, 3) := by decide +kernel
theorem dX7_sets_62 : decode cX7_sets 62 = .ok (.iconst 0, 1) := by decide +kernel
theorem dX7_sets_63 : decode cX7_sets 63 = .ok (.istore 8, 2) := by decide +kernel
theorem dX7_sets_65 : decode cX7_sets 65 = .ok (.iload 8, 2) := by decide +kernel
theorem dX7_sets_67 : decode cX7_sets 67 = .ok (.aload_n 0, 1) := by decide +kernel
theorem dX7_sets_68 : decode cX7_sets 68 = .ok (.getfield 229, 3) := by decide +kernel
theorem dX7_sets_71 : decode cX7_sets 71 = .ok (.if_icmp .ge 49, 3) := by decide +kernel
theorem dX7_sets_74 : decode cX7_sets 74 = .ok (.aload_n 0, 1) := by decide +kernel
theorem dX7_sets_75 : decode cX7_sets 75 = .ok (.getfield 48, 3) := by decide +kernel
theorem dX7_sets_78 : decode cX7_sets 78 = .ok (.bipush 8, 2) := by decide +kernel
theorem dX7_sets_80 : decode cX7_sets 80 = .ok (.iload 7, 2) := by decide +kernel
theorem dX7_sets_82 : decode cX7_sets 82 = .ok (.imul, 1) := by decide +kernel
theorem dX7_sets_83 : decode cX7_sets 83 = .ok (.iload 8, 2) := by decide +kernel
theorem dX7_sets_85 : decode cX7_sets 85 = .ok (.iadd, 1) := by decide +kernel
theorem dX7_sets_86 : decode cX7_sets 86 = .ok (.aload_n 0, 1) := by decide +kernel
theorem dX7_sets_87 : decode cX7_sets 87 = .ok (.iload_n 1, 1) := by decide +kernel
theorem dX7_sets_88 : decode cX7_sets 88 = .ok (.iload_n 2, 1) := by decide +kernel
theorem dX7_sets_89 : decode cX7_sets 89 = .ok (.iload_n 3, 1) := by decide +kernel
theorem dX7_sets_90 : decode cX7_sets 90 = .ok (.iload 7, 2) := by decide +kernel
theorem dX7_sets_92 : decode cX7_sets 92 = .ok (.iload 6, 2) := by decide +kernel
theorem dX7_sets_94 : decode cX7_sets 94 = .ok (.iadd, 1) := by decide +kernel
theorem dX7_sets_95 : decode cX7_sets 95 = .ok (.iload 8, 2) := by decide +kernel
theorem dX7_sets_97 : decode cX7_sets 97 = .ok (.iload 4, 2) := by decide +kernel
theorem dX7_sets_99 : decode cX7_sets 99 = .ok (.ifCond .ne 7, 3) := by decide +kernel
theorem dX7_sets_102 : decode cX7_sets 102 = .ok (.iconst 0, 1) := by decide +kernel
theorem dX7_sets_103 : decode cX7_sets 103 = .ok (.goto 5, 3) := by decide +kernel
theorem dX7_sets_106 : decode cX7_sets 106 = .ok (.iload 6, 2) := by decide +kernel
theorem dX7_sets_108 : decode cX7_sets 108 = .ok (.iadd, 1) := by decide +kernel
theorem dX7_sets_109 : decode cX7_sets 109 = .ok (.invokevirtual 249, 3) := by decide +kernel
theorem dX7_sets_112 : decode cX7_sets 112 = .ok (.i2l, 1) := by decide +kernel
theorem dX7_sets_113 : decode cX7_sets 113 = .ok (.lastore, 1) := by decide +kernel
theorem dX7_sets_114 : decode cX7_sets 114 = .ok (.iinc 8 1, 3) := by decide +kernel
theorem dX7_sets_117 : decode cX7_sets 117 = .ok (.goto (-52), 3) := by decide +kernel
theorem dX7_sets_120 : decode cX7_sets 120 = .ok (.aload_n 0, 1) := by decide +kernel
theorem dX7_sets_121 : decode cX7_sets 121 = .ok (.getfield 48, 3) := by decide +kernel
theorem dX7_sets_124 : decode cX7_sets 124 = .ok (.bipush 8, 2) := by decide +kernel
theorem dX7_sets_126 : decode cX7_sets 126 = .ok (.iload 7, 2) := by decide +kernel
theorem dX7_sets_128 : decode cX7_sets 128 = .ok (.imul, 1) := by decide +kernel
theorem dX7_sets_129 : decode cX7_sets 129 = .ok (.aload_n 0, 1) := by decide +kernel
theorem dX7_sets_130 : decode cX7_sets 130 = .ok (.getfield 229, 3) := by decide +kernel
theorem dX7_sets_133 : decode cX7_sets 133 = .ok (.iadd, 1) := by decide +kernel
theorem dX7_sets_134 : decode cX7_sets 134 = .ok (.aload_n 0, 1) := by decide +kernel
theorem dX7_sets_135 : decode cX7_sets 135 = .ok (.iconst 2, 1) := by decide +kernel
theorem dX7_sets_136 : decode cX7_sets 136 = .ok (.iload 7, 2) := by decide +kernel
theorem dX7_sets_138 : decode cX7_sets 138 = .ok (.iload 6, 2) := by decide +kernel
theorem dX7_sets_140 : decode cX7_sets 140 = .ok (.iadd, 1) := by decide +kernel
theorem dX7_sets_141 : decode cX7_sets 141 = .ok (.aload_n 0, 1) := by decide +kernel
theorem dX7_sets_142 : decode cX7_sets 142 = .ok (.getfield 23, 3) := by decide +kernel
theorem dX7_sets_145 : decode cX7_sets 145 = .ok (.idiv, 1) := by decide +kernel
theorem dX7_sets_146 : decode cX7_sets 146 = .ok (.iload 7, 2) := by decide +kernel
theorem dX7_sets_148 : decode cX7_sets 148 = .ok (.iload 6, 2) := by decide +kernel
theorem dX7_sets_150 : decode cX7_sets 150 = .ok (.iadd, 1) := by decide +kernel
theorem dX7_sets_151 : decode cX7_sets 151 = .ok (.aload_n 0, 1) := by decide +kernel
theorem dX7_sets_152 : decode cX7_sets 152 = .ok (.getfield 23, 3) := by decide +kernel
theorem dX7_sets_155 : decode cX7_sets 155 = .ok (.irem, 1) := by decide +kernel
theorem dX7_sets_156 : decode cX7_sets 156 = .ok (.invokevirtual 128, 3) := by decide +kernel
theorem dX7_sets_159 : decode cX7_sets 159 = .ok (.i2l, 1) := by decide +kernel
theorem dX7_sets_160 : decode cX7_sets 160 = .ok (.lastore, 1) := by decide +kernel
theorem dX7_sets_161 : decode cX7_sets 161 = .ok (.iinc 7 1, 3) := by decide +kernel
theorem dX7_sets_164 : decode cX7_sets 164 = .ok (.goto (-111), 3) := by decide +kernel
theorem dX7_sets_167 : decode cX7_sets 167 = .ok (.aload_n 0, 1) := by decide +kernel
theorem dX7_sets_168 : decode cX7_sets 168 = .ok (.invokevirtual 252, 3) := by decide +kernel
theorem dX7_sets_171 : decode cX7_sets 171 = .ok (.return_, 1) := by decide +kernel
theorem dX7_setsUp_0 : decode cX7_setsUp 0 = .ok (.aload_n 0, 1) := by decide +kernel
theorem dX7_setsUp_1 : decode cX7_setsUp 1 = .ok (.aload_n 0, 1) := by decide +kernel
theorem dX7_setsUp_2 : decode cX7_setsUp 2 = .ok (.getfield 29, 3) := by decide +kernel
theorem dX7_setsUp_5 : decode cX7_setsUp 5 = .ok (.iload_n 1, 1) := by decide +kernel
theorem dX7_setsUp_6 : decode cX7_setsUp 6 = .ok (.iaload, 1) := by decide +kernel
theorem dX7_setsUp_7 : decode cX7_setsUp 7 = .ok (.aload_n 0, 1) := by decide +kernel
theorem dX7_setsUp_8 : decode cX7_setsUp 8 = .ok (.getfield 29, 3) := by decide +kernel
theorem dX7_setsUp_11 : decode cX7_setsUp 11 = .ok (.iload_n 1, 1) := by decide +kernel
theorem dX7_setsUp_12 : decode cX7_setsUp 12 = .ok (.iaload, 1) := by decide +kernel
theorem dX7_setsUp_13 : decode cX7_setsUp 13 = .ok (.aload_n 0, 1) := by decide +kernel
theorem dX7_setsUp_14 : decode cX7_setsUp 14 = .ok (.getfield 32, 3) := by decide +kernel
theorem dX7_setsUp_17 : decode cX7_setsUp 17 = .ok (.iload_n 1, 1) := by decide +kernel
theorem dX7_setsUp_18 : decode cX7_setsUp 18 = .ok (.iaload, 1) := by decide +kernel
theorem dX7_setsUp_19 : decode cX7_setsUp 19 = .ok (.iconst 0, 1) := by decide +kernel
theorem dX7_setsUp_20 : decode cX7_setsUp 20 = .ok (.invokevirtual 255, 3) := by decide +kernel
theorem dX7_setsUp_23 : decode cX7_setsUp 23 = .ok (.return_, 1) := by decide +kernel
theorem dX7_freeOnes_0 : decode cX7_freeOnes 0 = .ok (.iconst 0, 1) := by decide +kernel
theorem dX7_freeOnes_1 : decode cX7_freeOnes 1 = .ok (.istore_n 1, 1) := by decide +kernel
theorem dX7_freeOnes_2 : decode cX7_freeOnes 2 = .ok (.iconst 0, 1) := by decide +kernel
theorem dX7_freeOnes_3 : decode cX7_freeOnes 3 = .ok (.istore_n 2, 1) := by decide +kernel
theorem dX7_freeOnes_4 : decode cX7_freeOnes 4 = .ok (.iload_n 2, 1) := by decide +kernel
theorem dX7_freeOnes_5 : decode cX7_freeOnes 5 = .ok (.aload_n 0, 1) := by decide +kernel
theorem dX7_freeOnes_6 : decode cX7_freeOnes 6 = .ok (.getfield 229, 3) := by decide +kernel
theorem dX7_freeOnes_9 : decode cX7_freeOnes 9 = .ok (.if_icmp .ge 28, 3) := by decide +kernel
theorem dX7_freeOnes_12 : decode cX7_freeOnes 12 = .ok (.iload_n 1, 1) := by decide +kernel
theorem dX7_freeOnes_13 : decode cX7_freeOnes 13 = .ok (.aload_n 0, 1) := by decide +kernel
theorem dX7_freeOnes_14 : decode cX7_freeOnes 14 = .ok (.getfield 55, 3) := by decide +kernel
theorem dX7_freeOnes_17 : decode cX7_freeOnes 17 = .ok (.iload_n 2, 1) := by decide +kernel
theorem dX7_freeOnes_18 : decode cX7_freeOnes 18 = .ok (.iaload, 1) := by decide +kernel
theorem dX7_freeOnes_19 : decode cX7_freeOnes 19 = .ok (.ifCond .ge 9, 3) := by decide +kernel
theorem dX7_freeOnes_22 : decode cX7_freeOnes 22 = .ok (.iconst 1, 1) := by decide +kernel
theorem dX7_freeOnes_23 : decode cX7_freeOnes 23 = .ok (.iload_n 2, 1) := by decide +kernel
theorem dX7_freeOnes_24 : decode cX7_freeOnes 24 = .ok (.ishl, 1) := by decide +kernel
theorem dX7_freeOnes_25 : decode cX7_freeOnes 25 = .ok (.goto 4, 3) := by decide +kernel
theorem dX7_freeOnes_28 : decode cX7_freeOnes 28 = .ok (.iconst 0, 1) := by decide +kernel
theorem dX7_freeOnes_29 : decode cX7_freeOnes 29 = .ok (.ior, 1) := by decide +kernel
theorem dX7_freeOnes_30 : decode cX7_freeOnes 30 = .ok (.istore_n 1, 1) := by decide +kernel
theorem dX7_freeOnes_31 : decode cX7_freeOnes 31 = .ok (.iinc 2 1, 3) := by decide +kernel
theorem dX7_freeOnes_34 : decode cX7_freeOnes 34 = .ok (.goto (-30), 3) := by decide +kernel
theorem dX7_freeOnes_37 : decode cX7_freeOnes 37 = .ok (.iload_n 1, 1) := by decide +kernel
theorem dX7_freeOnes_38 : decode cX7_freeOnes 38 = .ok (.ireturn, 1) := by decide +kernel
theorem dX7_of_0 : decode cX7_of 0 = .ok (.aload_n 0, 1) := by decide +kernel
theorem dX7_of_1 : decode cX7_of 1 = .ok (.iload_n 1, 1) := by decide +kernel
theorem dX7_of_2 : decode cX7_of 2 = .ok (.invokevirtual 203, 3) := by decide +kernel
theorem dX7_of_5 : decode cX7_of 5 = .ok (.ifCond .eq 15, 3) := by decide +kernel
theorem dX7_of_8 : decode cX7_of 8 = .ok (.iload_n 2, 1) := by decide +kernel
theorem dX7_of_9 : decode cX7_of 9 = .ok (.i2l, 1) := by decide +kernel
theorem dX7_of_10 : decode cX7_of 10 = .ok (.lconst 0, 1) := by decide +kernel
theorem dX7_of_11 : decode cX7_of 11 = .ok (.ldc2_w 193, 3) := by decide +kernel
theorem dX7_of_14 : decode cX7_of 14 = .ok (.invokestatic 99, 3) := by decide +kernel
theorem dX7_of_17 : decode cX7_of 17 = .ok (.ifCond .ne 5, 3) := by decide +kernel
theorem dX7_of_20 : decode cX7_of 20 = .ok (.iconst (-1), 1) := by decide +kernel
theorem dX7_of_21 : decode cX7_of 21 = .ok (.ireturn, 1) := by decide +kernel
theorem dX7_of_22 : decode cX7_of 22 = .ok (.aload_n 0, 1) := by decide +kernel
theorem dX7_of_23 : decode cX7_of 23 = .ok (.getfield 29, 3) := by decide +kernel
theorem dX7_of_26 : decode cX7_of 26 = .ok (.iload_n 1, 1) := by decide +kernel
theorem dX7_of_27 : decode cX7_of 27 = .ok (.iaload, 1) := by decide +kernel
theorem dX7_of_28 : decode cX7_of 28 = .ok (.istore_n 3, 1) := by decide +kernel
theorem dX7_of_29 : decode cX7_of 29 = .ok (.iload_n 2, 1) := by decide +kernel
theorem dX7_of_30 : decode cX7_of 30 = .ok (.iconst 3, 1) := by decide +kernel
theorem dX7_of_31 : decode cX7_of 31 = .ok (.if_icmp .ge 42, 3) := by decide +kernel
theorem dX7_of_34 : decode cX7_of 34 = .ok (.iload_n 2, 1) := by decide +kernel
theorem dX7_of_35 : decode cX7_of 35 = .ok (.ifCond .ne 7, 3) := by decide +kernel
theorem dX7_of_38 : decode cX7_of 38 = .ok (.iload_n 3, 1) := by decide +kernel
theorem dX7_of_39 : decode cX7_of 39 = .ok (.goto 33, 3) := by decide +kernel
theorem dX7_of_42 : decode cX7_of 42 = .ok (.iload_n 2, 1) := by decide +kernel
theorem dX7_of_43 : decode cX7_of 43 = .ok (.iconst 1, 1) := by decide +kernel
theorem dX7_of_44 : decode cX7_of 44 = .ok (.if_icmp .ne 15, 3) := by decide +kernel
theorem dX7_of_47 : decode cX7_of 47 = .ok (.bipush 10, 2) := by decide +kernel
theorem dX7_of_49 : decode cX7_of 49 = .ok (.aload_n 0, 1) := by decide +kernel
theorem dX7_of_50 : decode cX7_of 50 = .ok (.getfield 32, 3) := by decide +kernel
theorem dX7_of_53 : decode cX7_of 53 = .ok (.iload_n 1, 1) := by decide +kernel
theorem dX7_of_54 : decode cX7_of 54 = .ok (.iaload, 1) := by decide +kernel
theorem dX7_of_55 : decode cX7_of 55 = .ok (.iadd, 1) := by decide +kernel
theorem dX7_of_56 : decode cX7_of 56 = .ok (.goto 16, 3) := by decide +kernel
theorem dX7_of_59 : decode cX7_of 59 = .ok (.aload_n 0, 1) := by decide +kernel
theorem dX7_of_60 : decode cX7_of 60 = .ok (.iload_n 3, 1) := by decide +kernel
theorem dX7_of_61 : decode cX7_of 61 = .ok (.invokevirtual 259, 3) := by decide +kernel
theorem dX7_of_64 : decode cX7_of 64 = .ok (.ifCond .eq 7, 3) := by decide +kernel
theorem dX7_of_67 : decode cX7_of 67 = .ok (.iconst 1, 1) := by decide +kernel
theorem dX7_of_68 : decode cX7_of 68 = .ok (.goto 4, 3) := by decide +kernel
theorem dX7_of_71 : decode cX7_of 71 = .ok (.iconst 0, 1) := by decide +kernel
theorem dX7_of_72 : decode cX7_of 72 = .ok (.ireturn, 1) := by decide +kernel
theorem dX7_of_73 : decode cX7_of 73 = .ok (.iload_n 2, 1) := by decide +kernel
theorem dX7_of_74 : decode cX7_of 74 = .ok (.iconst 3, 1) := by decide +kernel
theorem dX7_of_75 : decode cX7_of 75 = .ok (.if_icmp .ne 22, 3) := by decide +kernel
theorem dX7_of_78 : decode cX7_of 78 = .ok (.aload_n 0, 1) := by decide +kernel
theorem dX7_of_79 : decode cX7_of 79 = .ok (.iload_n 3, 1) := by decide +kernel
theorem dX7_of_80 : decode cX7_of 80 = .ok (.invokevirtual 209, 3) := by decide +kernel
theorem dX7_of_83 : decode cX7_of 83 = .ok (.ifCond .eq 11, 3) := by decide +kernel
theorem dX7_of_86 : decode cX7_of 86 = .ok (.aload_n 0, 1) := by decide +kernel
theorem dX7_of_87 : decode cX7_of 87 = .ok (.iload_n 3, 1) := by decide +kernel
theorem dX7_of_88 : decode cX7_of 88 = .ok (.invokevirtual 212, 3) := by decide +kernel
theorem dX7_of_91 : decode cX7_of 91 = .ok (.goto 5, 3) := by decide +kernel
theorem dX7_of_94 : decode cX7_of 94 = .ok (.bipush (-4), 2) := by decide +kernel
theorem dX7_of_96 : decode cX7_of 96 = .ok (.ireturn, 1) := by decide +kernel
theorem dX7_of_97 : decode cX7_of 97 = .ok (.aload_n 0, 1) := by decide +kernel
theorem dX7_of_98 : decode cX7_of 98 = .ok (.iload_n 3, 1) := by decide +kernel
theorem dX7_of_99 : decode cX7_of 99 = .ok (.invokevirtual 259, 3) := by decide +kernel
theorem dX7_of_102 : decode cX7_of 102 = .ok (.ifCond .ne 6, 3) := by decide +kernel
theorem dX7_of_105 : decode cX7_of 105 = .ok (.bipush (-4), 2) := by decide +kernel
theorem dX7_of_107 : decode cX7_of 107 = .ok (.ireturn, 1) := by decide +kernel
theorem dX7_of_108 : decode cX7_of 108 = .ok (.aload_n 0, 1) := by decide +kernel
theorem dX7_of_109 : decode cX7_of 109 = .ok (.iload_n 1, 1) := by decide +kernel
theorem dX7_of_110 : decode cX7_of 110 = .ok (.invokevirtual 262, 3) := by decide +kernel
theorem dX7_of_113 : decode cX7_of 113 = .ok (.iload_n 2, 1) := by decide +kernel
theorem dX7_of_114 : decode cX7_of 114 = .ok (.iconst 4, 1) := by decide +kernel
theorem dX7_of_115 : decode cX7_of 115 = .ok (.if_icmp .ne 10, 3) := by decide +kernel
theorem dX7_of_118 : decode cX7_of 118 = .ok (.aload_n 0, 1) := by decide +kernel
theorem dX7_of_119 : decode cX7_of 119 = .ok (.getfield 239, 3) := by decide +kernel
theorem dX7_of_122 : decode cX7_of 122 = .ok (.goto 27, 3) := by decide +kernel
theorem dX7_of_125 : decode cX7_of 125 = .ok (.iload_n 2, 1) := by decide +kernel
theorem dX7_of_126 : decode cX7_of 126 = .ok (.iconst 5, 1) := by decide +kernel
theorem dX7_of_127 : decode cX7_of 127 = .ok (.if_icmp .ne 10, 3) := by decide +kernel
theorem dX7_of_130 : decode cX7_of 130 = .ok (.aload_n 0, 1) := by decide +kernel
theorem dX7_of_131 : decode cX7_of 131 = .ok (.invokevirtual 266, 3) := by decide +kernel
theorem dX7_of_134 : decode cX7_of 134 = .ok (.goto 15, 3) := by decide +kernel
theorem dX7_of_137 : decode cX7_of 137 = .ok (.aload_n 0, 1) := by decide +kernel
theorem dX7_of_138 : decode cX7_of 138 = .ok (.invokevirtual 270, 3) := by decide +kernel
theorem dX7_of_141 : decode cX7_of 141 = .ok (.ifCond .eq 7, 3) := by decide +kernel
theorem dX7_of_144 : decode cX7_of 144 = .ok (.iconst 1, 1) := by decide +kernel
theorem dX7_of_145 : decode cX7_of 145 = .ok (.goto 4, 3) := by decide +kernel
theorem dX7_of_148 : decode cX7_of 148 = .ok (.iconst 0, 1) := by decide +kernel
theorem dX7_of_149 : decode cX7_of 149 = .ok (.ireturn, 1) := by decide +kernel
theorem dX7_right_0 : decode cX7_right 0 = .ok (.aload_n 0, 1) := by decide +kernel
theorem dX7_right_1 : decode cX7_right 1 = .ok (.iload_n 1, 1) := by decide +kernel
theorem dX7_right_2 : decode cX7_right 2 = .ok (.invokevirtual 203, 3) := by decide +kernel
theorem dX7_right_5 : decode cX7_right 5 = .ok (.ifCond .eq 35, 3) := by decide +kernel
theorem dX7_right_8 : decode cX7_right 8 = .ok (.iload_n 2, 1) := by decide +kernel
theorem dX7_right_9 : decode cX7_right 9 = .ok (.i2l, 1) := by decide +kernel
theorem dX7_right_10 : decode cX7_right 10 = .ok (.lconst 0, 1) := by decide +kernel
theorem dX7_right_11 : decode cX7_right 11 = .ok (.aload_n 0, 1) := by decide +kernel
theorem dX7_right_12 : decode cX7_right 12 = .ok (.getfield 23, 3) := by decide +kernel
theorem dX7_right_15 : decode cX7_right 15 = .ok (.iconst 1, 1) := by decide +kernel
theorem dX7_right_16 : decode cX7_right 16 = .ok (.isub, 1) := by decide +kernel
theorem dX7_right_17 : decode cX7_right 17 = .ok (.i2l, 1) := by decide +kernel
theorem dX7_right_18 : decode cX7_right 18 = .ok (.invokestatic 99, 3) := by decide +kernel
theorem dX7_right_21 : decode cX7_right 21 = .ok (.ifCond .eq 19, 3) := by decide +kernel
theorem dX7_right_24 : decode cX7_right 24 = .ok (.iload_n 3, 1) := by decide +kernel
theorem dX7_right_25 : decode cX7_right 25 = .ok (.i2l, 1) := by decide +kernel
theorem dX7_right_26 : decode cX7_right 26 = .ok (.lconst 0, 1) := by decide +kernel
theorem dX7_right_27 : decode cX7_right 27 = .ok (.aload_n 0, 1) := by decide +kernel
theorem dX7_right_28 : decode cX7_right 28 = .ok (.getfield 23, 3) := by decide +kernel
theorem dX7_right_31 : decode cX7_right 31 = .ok (.iconst 1, 1) := by decide +kernel
theorem dX7_right_32 : decode cX7_right 32 = .ok (.isub, 1) := by decide +kernel
theorem dX7_right_33 : decode cX7_right 33 = .ok (.i2l, 1) := by decide +kernel
theorem dX7_right_34 : decode cX7_right 34 = .ok (.invokestatic 99, 3) := by decide +kernel
theorem dX7_right_37 : decode cX7_right 37 = .ok (.ifCond .ne 8, 3) := by decide +kernel
theorem dX7_right_40 : decode cX7_right 40 = .ok (.iconst (-1), 1) := by decide +kernel
theorem dX7_right_41 : decode cX7_right 41 = .ok (.invokestatic 140, 3) := by decide +kernel
theorem dX7_right_44 : decode cX7_right 44 = .ok (.lreturn, 1) := by decide +kernel
theorem dX7_right_45 : decode cX7_right 45 = .ok (.aload_n 0, 1) := by decide +kernel
theorem dX7_right_46 : decode cX7_right 46 = .ok (.aload_n 0, 1) := by decide +kernel
theorem dX7_right_47 : decode cX7_right 47 = .ok (.getfield 29, 3) := by decide +kernel
theorem dX7_right_50 : decode cX7_right 50 = .ok (.iload_n 1, 1) := by decide +kernel
theorem dX7_right_51 : decode cX7_right 51 = .ok (.iaload, 1) := by decide +kernel
theorem dX7_right_52 : decode cX7_right 52 = .ok (.invokevirtual 209, 3) := by decide +kernel
theorem dX7_right_55 : decode cX7_right 55 = .ok (.ifCond .eq 19, 3) := by decide +kernel
theorem dX7_right_58 : decode cX7_right 58 = .ok (.aload_n 0, 1) := by decide +kernel
theorem dX7_right_59 : decode cX7_right 59 = .ok (.aload_n 0, 1) := by decide +kernel
theorem dX7_right_60 : decode cX7_right 60 = .ok (.getfield 29, 3) := by decide +kernel
theorem dX7_right_63 : decode cX7_right 63 = .ok (.iload_n 1, 1) := by decide +kernel
theorem dX7_right_64 : decode cX7_right 64 = .ok (.iaload, 1) := by decide +kernel
theorem dX7_right_65 : decode cX7_right 65 = .ok (.iload_n 2, 1) := by decide +kernel
theorem dX7_right_66 : decode cX7_right 66 = .ok (.iload_n 3, 1) := by decide +kernel
theorem dX7_right_67 : decode cX7_right 67 = .ok (.invokevirtual 215, 3) := by decide +kernel
theorem dX7_right_70 : decode cX7_right 70 = .ok (.i2l, 1) := by decide +kernel
theorem dX7_right_71 : decode cX7_right 71 = .ok (.goto 8, 3) := by decide +kernel
theorem dX7_right_74 : decode cX7_right 74 = .ok (.bipush (-4), 2) := by decide +kernel
theorem dX7_right_76 : decode cX7_right 76 = .ok (.invokestatic 140, 3) := by decide +kernel
theorem dX7_right_79 : decode cX7_right 79 = .ok (.lreturn, 1) := by decide +kernel
theorem dX7_isPart_0 : decode cX7_isPart 0 = .ok (.aload_n 0, 1) := by decide +kernel
theorem dX7_isPart_1 : decode cX7_isPart 1 = .ok (.iload_n 1, 1) := by decide +kernel
theorem dX7_isPart_2 : decode cX7_isPart 2 = .ok (.invokevirtual 203, 3) := by decide +kernel
theorem dX7_isPart_5 : decode cX7_isPart 5 = .ok (.ifCond .eq 50, 3) := by decide +kernel
theorem dX7_isPart_8 : decode cX7_isPart 8 = .ok (.iload_n 2, 1) := by decide +kernel
theorem dX7_isPart_9 : decode cX7_isPart 9 = .ok (.i2l, 1) := by decide +kernel
theorem dX7_isPart_10 : decode cX7_isPart 10 = .ok (.lconst 0, 1) := by decide +kernel
theorem dX7_isPart_11 : decode cX7_isPart 11 = .ok (.aload_n 0, 1) := by decide +kernel
theorem dX7_isPart_12 : decode cX7_isPart 12 = .ok (.getfield 19, 3) := by decide +kernel
theorem dX7_isPart_15 : decode cX7_isPart 15 = .ok (.iconst 1, 1) := by decide +kernel
theorem dX7_isPart_16 : decode cX7_isPart 16 = .ok (.isub, 1) := by decide +kernel
theorem dX7_isPart_17 : decode cX7_isPart 17 = .ok (.i2l, 1) := by decide +kernel
theorem dX7_isPart_18 : decode cX7_isPart 18 = .ok (.invokestatic 99, 3) := by decide +kernel
theorem dX7_isPart_21 : decode cX7_isPart 21 = .ok (.ifCond .eq 34, 3) := by decide +kernel
theorem dX7_isPart_24 : decode cX7_isPart 24 = .ok (.iload_n 3, 1) := by decide +kernel
theorem dX7_isPart_25 : decode cX7_isPart 25 = .ok (.i2l, 1) := by decide +kernel
theorem dX7_isPart_26 : decode cX7_isPart 26 = .ok (.lconst 0, 1) := by decide +kernel
theorem dX7_isPart_27 : decode cX7_isPart 27 = .ok (.aload_n 0, 1) := by decide +kernel
theorem dX7_isPart_28 : decode cX7_isPart 28 = .ok (.getfield 23, 3) := by decide +kernel
theorem dX7_isPart_31 : decode cX7_isPart 31 = .ok (.iconst 1, 1) := by decide +kernel
theorem dX7_isPart_32 : decode cX7_isPart 32 = .ok (.isub, 1) := by decide +kernel
theorem dX7_isPart_33 : decode cX7_isPart 33 = .ok (.i2l, 1) := by decide +kernel
theorem dX7_isPart_34 : decode cX7_isPart 34 = .ok (.invokestatic 99, 3) := by decide +kernel
theorem dX7_isPart_37 : decode cX7_isPart 37 = .ok (.ifCond .eq 18, 3) := by decide +kernel
theorem dX7_isPart_40 : decode cX7_isPart 40 = .ok (.iload 4, 2) := by decide +kernel
theorem dX7_isPart_42 : decode cX7_isPart 42 = .ok (.i2l, 1) := by decide +kernel
theorem dX7_isPart_43 : decode cX7_isPart 43 = .ok (.lconst 0, 1) := by decide +kernel
theorem dX7_isPart_44 : decode cX7_isPart 44 = .ok (.lconst 1, 1) := by decide +kernel
theorem dX7_isPart_45 : decode cX7_isPart 45 = .ok (.invokestatic 99, 3) := by decide +kernel
theorem dX7_isPart_48 : decode cX7_isPart 48 = .ok (.ifCond .eq 7, 3) := by decide +kernel
theorem dX7_isPart_51 : decode cX7_isPart 51 = .ok (.iconst 1, 1) := by decide +kernel
theorem dX7_isPart_52 : decode cX7_isPart 52 = .ok (.goto 4, 3) := by decide +kernel
theorem dX7_isPart_55 : decode cX7_isPart 55 = .ok (.iconst 0, 1) := by decide +kernel
theorem dX7_isPart_56 : decode cX7_isPart 56 = .ok (.ireturn, 1) := by decide +kernel
theorem dX7_shapedSum_0 : decode cX7_shapedSum 0 = .ok (.lconst 0, 1) := by decide +kernel
theorem dX7_shapedSum_1 : decode cX7_shapedSum 1 = .ok (.lstore 5, 2) := by decide +kernel
theorem dX7_shapedSum_3 : decode cX7_shapedSum 3 = .ok (.iconst 0, 1) := by decide +kernel
theorem dX7_shapedSum_4 : decode cX7_shapedSum 4 = .ok (.istore 7, 2) := by decide +kernel
theorem dX7_shapedSum_6 : decode cX7_shapedSum 6 = .ok (.iload 7, 2) := by decide +kernel
theorem dX7_shapedSum_8 : decode cX7_shapedSum 8 = .ok (.aload_n 0, 1) := by decide +kernel
theorem dX7_shapedSum_9 : decode cX7_shapedSum 9 = .ok (.getfield 229, 3) := by decide +kernel
theorem dX7_shapedSum_12 : decode cX7_shapedSum 12 = .ok (.if_icmp .ge 129, 3) := by decide +kernel
theorem dX7_shapedSum_15 : decode cX7_shapedSum 15 = .ok (.iload_n 1, 1) := by decide +kernel
theorem dX7_shapedSum_16 : decode cX7_shapedSum 16 = .ok (.iload_n 2, 1) := by decide +kernel
theorem dX7_shapedSum_17 : decode cX7_shapedSum 17 = .ok (.iload_n 3, 1) := by decide +kernel
theorem dX7_shapedSum_18 : decode cX7_shapedSum 18 = .ok (.aload_n 0, 1) := by decide +kernel
theorem dX7_shapedSum_19 : decode cX7_shapedSum 19 = .ok (.getfield 45, 3) := by decide +kernel
theorem dX7_shapedSum_22 : decode cX7_shapedSum 22 = .ok (.iload 7, 2) := by decide +kernel
theorem dX7_shapedSum_24 : decode cX7_shapedSum 24 = .ok (.iaload, 1) := by decide +kernel
theorem dX7_shapedSum_25 : decode cX7_shapedSum 25 = .ok (.aload_n 0, 1) := by decide +kernel
theorem dX7_shapedSum_26 : decode cX7_shapedSum 26 = .ok (.getfield 23, 3) := by decide +kernel
theorem dX7_shapedSum_29 : decode cX7_shapedSum 29 = .ok (.idiv, 1) := by decide +kernel
theorem dX7_shapedSum_30 : decode cX7_shapedSum 30 = .ok (.aload_n 0, 1) := by decide +kernel
theorem dX7_shapedSum_31 : decode cX7_shapedSum 31 = .ok (.getfield 45, 3) := by decide +kernel
theorem dX7_shapedSum_34 : decode cX7_shapedSum 34 = .ok (.iload 7, 2) := by decide +kernel
theorem dX7_shapedSum_36 : decode cX7_shapedSum 36 = .ok (.iaload, 1) := by decide +kernel
theorem dX7_shapedSum_37 : decode cX7_shapedSum 37 = .ok (.aload_n 0, 1) := by decide +kernel
theorem dX7_shapedSum_38 : decode cX7_shapedSum 38 = .ok (.getfield 23, 3) := by decide +kernel
theorem dX7_shapedSum_41 : decode cX7_shapedSum 41 = .ok (.irem, 1) := by decide +kernel
theorem dX7_shapedSum_42 : decode cX7_shapedSum 42 = .ok (.invokestatic 218, 3) := by decide +kernel
theorem dX7_shapedSum_45 : decode cX7_shapedSum 45 = .ok (.istore 8, 2) := by decide +kernel
theorem dX7_shapedSum_47 : decode cX7_shapedSum 47 = .ok (.aload_n 0, 1) := by decide +kernel
theorem dX7_shapedSum_48 : decode cX7_shapedSum 48 = .ok (.getfield 55, 3) := by decide +kernel
theorem dX7_shapedSum_51 : decode cX7_shapedSum 51 = .ok (.iload 7, 2) := by decide +kernel
theorem dX7_shapedSum_53 : decode cX7_shapedSum 53 = .ok (.iaload, 1) := by decide +kernel
theorem dX7_shapedSum_54 : decode cX7_shapedSum 54 = .ok (.ifCond .ge 21, 3) := by decide +kernel
theorem dX7_shapedSum_57 : decode cX7_shapedSum 57 = .ok (.iload 7, 2) := by decide +kernel
theorem dX7_shapedSum_59 : decode cX7_shapedSum 59 = .ok (.iload 4, 2) := by decide +kernel
theorem dX7_shapedSum_61 : decode cX7_shapedSum 61 = .ok (.if_icmp .ne 10, 3) := by decide +kernel
theorem dX7_shapedSum_64 : decode cX7_shapedSum 64 = .ok (.aload_n 0, 1) := by decide +kernel
theorem dX7_shapedSum_65 : decode cX7_shapedSum 65 = .ok (.getfield 235, 3) := by decide +kernel
theorem dX7_shapedSum_68 : decode cX7_shapedSum 68 = .ok (.goto 54, 3) := by decide +kernel
theorem dX7_shapedSum_71 : decode cX7_shapedSum 71 = .ok (.lconst 0, 1) := by decide +kernel
theorem dX7_shapedSum_72 : decode cX7_shapedSum 72 = .ok (.goto 50, 3) := by decide +kernel
theorem dX7_shapedSum_75 : decode cX7_shapedSum 75 = .ok (.iload 4, 2) := by decide +kernel
theorem dX7_shapedSum_77 : decode cX7_shapedSum 77 = .ok (.ifCond .ge 26, 3) := by decide +kernel
theorem dX7_shapedSum_80 : decode cX7_shapedSum 80 = .ok (.aload_n 0, 1) := by decide +kernel
theorem dX7_shapedSum_81 : decode cX7_shapedSum 81 = .ok (.getfield 48, 3) := by decide +kernel
theorem dX7_shapedSum_84 : decode cX7_shapedSum 84 = .ok (.bipush 8, 2) := by decide +kernel
theorem dX7_shapedSum_86 : decode cX7_shapedSum 86 = .ok (.aload_n 0, 1) := by decide +kernel
theorem dX7_shapedSum_87 : decode cX7_shapedSum 87 = .ok (.getfield 55, 3) := by decide +kernel
theorem dX7_shapedSum_90 : decode cX7_shapedSum 90 = .ok (.iload 7, 2) := by decide +kernel
theorem dX7_shapedSum_92 : decode cX7_shapedSum 92 = .ok (.iaload, 1) := by decide +kernel
theorem dX7_shapedSum_93 : decode cX7_shapedSum 93 = .ok (.imul, 1) := by decide +kernel
theorem dX7_shapedSum_94 : decode cX7_shapedSum 94 = .ok (.aload_n 0, 1) := by decide +kernel
theorem dX7_shapedSum_95 : decode cX7_shapedSum 95 = .ok (.getfield 229, 3) := by decide +kernel
theorem dX7_shapedSum_98 : decode cX7_shapedSum 98 = .ok (.iadd, 1) := by decide +kernel
theorem dX7_shapedSum_99 : decode cX7_shapedSum 99 = .ok (.laload, 1) := by decide +kernel
theorem dX7_shapedSum_100 : decode cX7_shapedSum 100 = .ok (.goto 22, 3) := by decide +kernel
theorem dX7_shapedSum_103 : decode cX7_shapedSum 103 = .ok (.aload_n 0, 1) := by decide +kernel
theorem dX7_shapedSum_104 : decode cX7_shapedSum 104 = .ok (.getfield 48, 3) := by decide +kernel
theorem dX7_shapedSum_107 : decode cX7_shapedSum 107 = .ok (.bipush 8, 2) := by decide +kernel
theorem dX7_shapedSum_109 : decode cX7_shapedSum 109 = .ok (.aload_n 0, 1) := by decide +kernel
theorem dX7_shapedSum_110 : decode cX7_shapedSum 110 = .ok (.getfield 55, 3) := by decide +kernel
theorem dX7_shapedSum_113 : decode cX7_shapedSum 113 = .ok (.iload 7, 2) := by decide +kernel
theorem dX7_shapedSum_115 : decode cX7_shapedSum 115 = .ok (.iaload, 1) := by decide +kernel
theorem dX7_shapedSum_116 : decode cX7_shapedSum 116 = .ok (.imul, 1) := by decide +kernel
theorem dX7_shapedSum_117 : decode cX7_shapedSum 117 = .ok (.iload 4, 2) := by decide +kernel
theorem dX7_shapedSum_119 : decode cX7_shapedSum 119 = .ok (.iadd, 1) := by decide +kernel
theorem dX7_shapedSum_120 : decode cX7_shapedSum 120 = .ok (.laload, 1) := by decide +kernel
theorem dX7_shapedSum_121 : decode cX7_shapedSum 121 = .ok (.lneg, 1) := by decide +kernel
theorem dX7_shapedSum_122 : decode cX7_shapedSum 122 = .ok (.lstore 9, 2) := by decide +kernel
theorem dX7_shapedSum_124 : decode cX7_shapedSum 124 = .ok (.lload 5, 2) := by decide +kernel
theorem dX7_shapedSum_126 : decode cX7_shapedSum 126 = .ok (.iload 8, 2) := by decide +kernel
theorem dX7_shapedSum_128 : decode cX7_shapedSum 128 = .ok (.i2l, 1) := by decide +kernel
theorem dX7_shapedSum_129 : decode cX7_shapedSum 129 = .ok (.lload 9, 2) := by decide +kernel
theorem dX7_shapedSum_131 : decode cX7_shapedSum 131 = .ok (.lmul, 1) := by decide +kernel
theorem dX7_shapedSum_132 : decode cX7_shapedSum 132 = .ok (.ladd, 1) := by decide +kernel
theorem dX7_shapedSum_133 : decode cX7_shapedSum 133 = .ok (.lstore 5, 2) := by decide +kernel
theorem dX7_shapedSum_135 : decode cX7_shapedSum 135 = .ok (.iinc 7 1, 3) := by decide +kernel
theorem dX7_shapedSum_138 : decode cX7_shapedSum 138 = .ok (.goto (-132), 3) := by decide +kernel
theorem dX7_shapedSum_141 : decode cX7_shapedSum 141 = .ok (.lload 5, 2) := by decide +kernel
theorem dX7_shapedSum_143 : decode cX7_shapedSum 143 = .ok (.lreturn, 1) := by decide +kernel
theorem dX7_solution_0 : decode cX7_solution 0 = .ok (.aload_n 0, 1) := by decide +kernel
theorem dX7_solution_1 : decode cX7_solution 1 = .ok (.iload_n 1, 1) := by decide +kernel
theorem dX7_solution_2 : decode cX7_solution 2 = .ok (.iload_n 2, 1) := by decide +kernel
theorem dX7_solution_3 : decode cX7_solution 3 = .ok (.iload_n 3, 1) := by decide +kernel
theorem dX7_solution_4 : decode cX7_solution 4 = .ok (.iload 4, 2) := by decide +kernel
theorem dX7_solution_6 : decode cX7_solution 6 = .ok (.invokevirtual 274, 3) := by decide +kernel
theorem dX7_solution_9 : decode cX7_solution 9 = .ok (.ifCond .ne 8, 3) := by decide +kernel
theorem dX7_solution_12 : decode cX7_solution 12 = .ok (.iconst (-1), 1) := by decide +kernel
theorem dX7_solution_13 : decode cX7_solution 13 = .ok (.invokestatic 140, 3) := by decide +kernel
theorem dX7_solution_16 : decode cX7_solution 16 = .ok (.lreturn, 1) := by decide +kernel
theorem dX7_solution_17 : decode cX7_solution 17 = .ok (.aload_n 0, 1) := by decide +kernel
theorem dX7_solution_18 : decode cX7_solution 18 = .ok (.aload_n 0, 1) := by decide +kernel
theorem dX7_solution_19 : decode cX7_solution 19 = .ok (.getfield 29, 3) := by decide +kernel
theorem dX7_solution_22 : decode cX7_solution 22 = .ok (.iload_n 1, 1) := by decide +kernel
theorem dX7_solution_23 : decode cX7_solution 23 = .ok (.iaload, 1) := by decide +kernel
theorem dX7_solution_24 : decode cX7_solution 24 = .ok (.invokevirtual 259, 3) := by decide +kernel
theorem dX7_solution_27 : decode cX7_solution 27 = .ok (.ifCond .ne 9, 3) := by decide +kernel
theorem dX7_solution_30 : decode cX7_solution 30 = .ok (.bipush (-4), 2) := by decide +kernel
theorem dX7_solution_32 : decode cX7_solution 32 = .ok (.invokestatic 140, 3) := by decide +kernel
theorem dX7_solution_35 : decode cX7_solution 35 = .ok (.lreturn, 1) := by decide +kernel
theorem dX7_solution_36 : decode cX7_solution 36 = .ok (.aload_n 0, 1) := by decide +kernel
theorem dX7_solution_37 : decode cX7_solution 37 = .ok (.iload_n 1, 1) := by decide +kernel
theorem dX7_solution_38 : decode cX7_solution 38 = .ok (.invokevirtual 262, 3) := by decide +kernel
theorem dX7_solution_41 : decode cX7_solution 41 = .ok (.aload_n 0, 1) := by decide +kernel
theorem dX7_solution_42 : decode cX7_solution 42 = .ok (.invokevirtual 270, 3) := by decide +kernel
theorem dX7_solution_45 : decode cX7_solution 45 = .ok (.ifCond .eq 28, 3) := by decide +kernel
theorem dX7_solution_48 : decode cX7_solution 48 = .ok (.aload_n 0, 1) := by decide +kernel
theorem dX7_solution_49 : decode cX7_solution 49 = .ok (.aload_n 0, 1) := by decide +kernel
theorem dX7_solution_50 : decode cX7_solution 50 = .ok (.getfield 29, 3) := by decide +kernel
theorem dX7_solution_53 : decode cX7_solution 53 = .ok (.iload_n 1, 1) := by decide +kernel
theorem dX7_solution_54 : decode cX7_solution 54 = .ok (.iaload, 1) := by decide +kernel
theorem dX7_solution_55 : decode cX7_solution 55 = .ok (.iload_n 2, 1) := by decide +kernel
theorem dX7_solution_56 : decode cX7_solution 56 = .ok (.iload_n 3, 1) := by decide +kernel
theorem dX7_solution_57 : decode cX7_solution 57 = .ok (.iconst (-1), 1) := by decide +kernel
theorem dX7_solution_58 : decode cX7_solution 58 = .ok (.invokevirtual 278, 3) := by decide +kernel
theorem dX7_solution_61 : decode cX7_solution 61 = .ok (.aload_n 0, 1) := by decide +kernel
theorem dX7_solution_62 : decode cX7_solution 62 = .ok (.getfield 235, 3) := by decide +kernel
theorem dX7_solution_65 : decode cX7_solution 65 = .ok (.iload 4, 2) := by decide +kernel
theorem dX7_solution_67 : decode cX7_solution 67 = .ok (.invokestatic 282, 3) := by decide +kernel
theorem dX7_solution_70 : decode cX7_solution 70 = .ok (.goto 8, 3) := by decide +kernel
theorem dX7_solution_73 : decode cX7_solution 73 = .ok (.bipush (-3), 2) := by decide +kernel
theorem dX7_solution_75 : decode cX7_solution 75 = .ok (.invokestatic 140, 3) := by decide +kernel
theorem dX7_solution_78 : decode cX7_solution 78 = .ok (.lreturn, 1) := by decide +kernel
theorem dX7_base_0 : decode cX7_base 0 = .ok (.aload_n 0, 1) := by decide +kernel
theorem dX7_base_1 : decode cX7_base 1 = .ok (.iload_n 1, 1) := by decide +kernel
theorem dX7_base_2 : decode cX7_base 2 = .ok (.iload_n 3, 1) := by decide +kernel
theorem dX7_base_3 : decode cX7_base 3 = .ok (.iload 4, 2) := by decide +kernel
theorem dX7_base_5 : decode cX7_base 5 = .ok (.iload 5, 2) := by decide +kernel
theorem dX7_base_7 : decode cX7_base 7 = .ok (.invokevirtual 274, 3) := by decide +kernel
theorem dX7_base_10 : decode cX7_base 10 = .ok (.ifCond .eq 15, 3) := by decide +kernel
theorem dX7_base_13 : decode cX7_base 13 = .ok (.iload_n 2, 1) := by decide +kernel
theorem dX7_base_14 : decode cX7_base 14 = .ok (.i2l, 1) := by decide +kernel
theorem dX7_base_15 : decode cX7_base 15 = .ok (.lconst 0, 1) := by decide +kernel
theorem dX7_base_16 : decode cX7_base 16 = .ok (.ldc2_w 149, 3) := by decide +kernel
theorem dX7_base_19 : decode cX7_base 19 = .ok (.invokestatic 99, 3) := by decide +kernel
theorem dX7_base_22 : decode cX7_base 22 = .ok (.ifCond .ne 8, 3) := by decide +kernel
theorem dX7_base_25 : decode cX7_base 25 = .ok (.iconst (-1), 1) := by decide +kernel
theorem dX7_base_26 : decode cX7_base 26 = .ok (.invokestatic 140, 3) := by decide +kernel
theorem dX7_base_29 : decode cX7_base 29 = .ok (.lreturn, 1) := by decide +kernel
theorem dX7_base_30 : decode cX7_base 30 = .ok (.aload_n 0, 1) := by decide +kernel
theorem dX7_base_31 : decode cX7_base 31 = .ok (.aload_n 0, 1) := by decide +kernel
theorem dX7_base_32 : decode cX7_base 32 = .ok (.getfield 29, 3) := by decide +kernel
theorem dX7_base_35 : decode cX7_base 35 = .ok (.iload_n 1, 1) := by decide +kernel
theorem dX7_base_36 : decode cX7_base 36 = .ok (.iaload, 1) := by decide +kernel
theorem dX7_base_37 : decode cX7_base 37 = .ok (.invokevirtual 259, 3) := by decide +kernel
theorem dX7_base_40 : decode cX7_base 40 = .ok (.ifCond .ne 9, 3) := by decide +kernel
theorem dX7_base_43 : decode cX7_base 43 = .ok (.bipush (-4), 2) := by decide +kernel
theorem dX7_base_45 : decode cX7_base 45 = .ok (.invokestatic 140, 3) := by decide +kernel
theorem dX7_base_48 : decode cX7_base 48 = .ok (.lreturn, 1) := by decide +kernel
theorem dX7_base_49 : decode cX7_base 49 = .ok (.aload_n 0, 1) := by decide +kernel
theorem dX7_base_50 : decode cX7_base 50 = .ok (.iload_n 1, 1) := by decide +kernel
theorem dX7_base_51 : decode cX7_base 51 = .ok (.invokevirtual 262, 3) := by decide +kernel
theorem dX7_base_54 : decode cX7_base 54 = .ok (.iload_n 2, 1) := by decide +kernel
theorem dX7_base_55 : decode cX7_base 55 = .ok (.aload_n 0, 1) := by decide +kernel
theorem dX7_base_56 : decode cX7_base 56 = .ok (.getfield 229, 3) := by decide +kernel
theorem dX7_base_59 : decode cX7_base 59 = .ok (.if_icmp .ge 38, 3) := by decide +kernel
theorem dX7_base_62 : decode cX7_base 62 = .ok (.aload_n 0, 1) := by decide +kernel
theorem dX7_base_63 : decode cX7_base 63 = .ok (.getfield 55, 3) := by decide +kernel
theorem dX7_base_66 : decode cX7_base 66 = .ok (.iload_n 2, 1) := by decide +kernel
theorem dX7_base_67 : decode cX7_base 67 = .ok (.iaload, 1) := by decide +kernel
theorem dX7_base_68 : decode cX7_base 68 = .ok (.ifCond .ge 29, 3) := by decide +kernel
theorem dX7_base_71 : decode cX7_base 71 = .ok (.aload_n 0, 1) := by decide +kernel
theorem dX7_base_72 : decode cX7_base 72 = .ok (.aload_n 0, 1) := by decide +kernel
theorem dX7_base_73 : decode cX7_base 73 = .ok (.getfield 29, 3) := by decide +kernel
theorem dX7_base_76 : decode cX7_base 76 = .ok (.iload_n 1, 1) := by decide +kernel
theorem dX7_base_77 : decode cX7_base 77 = .ok (.iaload, 1) := by decide +kernel
theorem dX7_base_78 : decode cX7_base 78 = .ok (.iload_n 3, 1) := by decide +kernel
theorem dX7_base_79 : decode cX7_base 79 = .ok (.iload 4, 2) := by decide +kernel
theorem dX7_base_81 : decode cX7_base 81 = .ok (.iload_n 2, 1) := by decide +kernel
theorem dX7_base_82 : decode cX7_base 82 = .ok (.invokevirtual 278, 3) := by decide +kernel
theorem dX7_base_85 : decode cX7_base 85 = .ok (.aload_n 0, 1) := by decide +kernel
theorem dX7_base_86 : decode cX7_base 86 = .ok (.getfield 235, 3) := by decide +kernel
theorem dX7_base_89 : decode cX7_base 89 = .ok (.iload 5, 2) := by decide +kernel
theorem dX7_base_91 : decode cX7_base 91 = .ok (.invokestatic 282, 3) := by decide +kernel
theorem dX7_base_94 : decode cX7_base 94 = .ok (.goto 8, 3) := by decide +kernel
theorem dX7_base_97 : decode cX7_base 97 = .ok (.bipush (-3), 2) := by decide +kernel
theorem dX7_base_99 : decode cX7_base 99 = .ok (.invokestatic 140, 3) := by decide +kernel
theorem dX7_base_102 : decode cX7_base 102 = .ok (.lreturn, 1) := by decide +kernel
theorem dX7_swapsRules_0 : decode cX7_swapsRules 0 = .ok (.iconst 0, 1) := by decide +kernel
theorem dX7_swapsRules_1 : decode cX7_swapsRules 1 = .ok (.istore_n 3, 1) := by decide +kernel
theorem dX7_swapsRules_2 : decode cX7_swapsRules 2 = .ok (.iload_n 3, 1) := by decide +kernel
theorem dX7_swapsRules_3 : decode cX7_swapsRules 3 = .ok (.bipush 9, 2) := by decide +kernel
theorem dX7_swapsRules_5 : decode cX7_swapsRules 5 = .ok (.if_icmp .ge 57, 3) := by decide +kernel
theorem dX7_swapsRules_8 : decode cX7_swapsRules 8 = .ok (.aload_n 0, 1) := by decide +kernel
theorem dX7_swapsRules_9 : decode cX7_swapsRules 9 = .ok (.getfield 58, 3) := by decide +kernel
theorem dX7_swapsRules_12 : decode cX7_swapsRules 12 = .ok (.bipush 9, 2) := by decide +kernel
theorem dX7_swapsRules_14 : decode cX7_swapsRules 14 = .ok (.iload_n 1, 1) := by decide +kernel
theorem dX7_swapsRules_15 : decode cX7_swapsRules 15 = .ok (.imul, 1) := by decide +kernel
theorem dX7_swapsRules_16 : decode cX7_swapsRules 16 = .ok (.iload_n 3, 1) := by decide +kernel
theorem dX7_swapsRules_17 : decode cX7_swapsRules 17 = .ok (.iadd, 1) := by decide +kernel
theorem dX7_swapsRules_18 : decode cX7_swapsRules 18 = .ok (.laload, 1) := by decide +kernel
theorem dX7_swapsRules_19 : decode cX7_swapsRules 19 = .ok (.lstore 4, 2) := by decide +kernel
theorem dX7_swapsRules_21 : decode cX7_swapsRules 21 = .ok (.aload_n 0, 1) := by decide +kernel
theorem dX7_swapsRules_22 : decode cX7_swapsRules 22 = .ok (.getfield 58, 3) := by decide +kernel
theorem dX7_swapsRules_25 : decode cX7_swapsRules 25 = .ok (.bipush 9, 2) := by decide +kernel
theorem dX7_swapsRules_27 : decode cX7_swapsRules 27 = .ok (.iload_n 1, 1) := by decide +kernel
theorem dX7_swapsRules_28 : decode cX7_swapsRules 28 = .ok (.imul, 1) := by decide +kernel
theorem dX7_swapsRules_29 : decode cX7_swapsRules 29 = .ok (.iload_n 3, 1) := by decide +kernel
theorem dX7_swapsRules_30 : decode cX7_swapsRules 30 = .ok (.iadd, 1) := by decide +kernel
theorem dX7_swapsRules_31 : decode cX7_swapsRules 31 = .ok (.aload_n 0, 1) := by decide +kernel
theorem dX7_swapsRules_32 : decode cX7_swapsRules 32 = .ok (.getfield 58, 3) := by decide +kernel
theorem dX7_swapsRules_35 : decode cX7_swapsRules 35 = .ok (.bipush 9, 2) := by decide +kernel
theorem dX7_swapsRules_37 : decode cX7_swapsRules 37 = .ok (.iload_n 2, 1) := by decide +kernel
theorem dX7_swapsRules_38 : decode cX7_swapsRules 38 = .ok (.imul, 1) := by decide +kernel
theorem dX7_swapsRules_39 : decode cX7_swapsRules 39 = .ok (.iload_n 3, 1) := by decide +kernel
theorem dX7_swapsRules_40 : decode cX7_swapsRules 40 = .ok (.iadd, 1) := by decide +kernel
theorem dX7_swapsRules_41 : decode cX7_swapsRules 41 = .ok (.laload, 1) := by decide +kernel
theorem dX7_swapsRules_42 : decode cX7_swapsRules 42 = .ok (.lastore, 1) := by decide +kernel
theorem dX7_swapsRules_43 : decode cX7_swapsRules 43 = .ok (.aload_n 0, 1) := by decide +kernel
theorem dX7_swapsRules_44 : decode cX7_swapsRules 44 = .ok (.getfield 58, 3) := by decide +kernel
theorem dX7_swapsRules_47 : decode cX7_swapsRules 47 = .ok (.bipush 9, 2) := by decide +kernel
theorem dX7_swapsRules_49 : decode cX7_swapsRules 49 = .ok (.iload_n 2, 1) := by decide +kernel
theorem dX7_swapsRules_50 : decode cX7_swapsRules 50 = .ok (.imul, 1) := by decide +kernel
theorem dX7_swapsRules_51 : decode cX7_swapsRules 51 = .ok (.iload_n 3, 1) := by decide +kernel
theorem dX7_swapsRules_52 : decode cX7_swapsRules 52 = .ok (.iadd, 1) := by decide +kernel
theorem dX7_swapsRules_53 : decode cX7_swapsRules 53 = .ok (.lload 4, 2) := by decide +kernel
theorem dX7_swapsRules_55 : decode cX7_swapsRules 55 = .ok (.lastore, 1) := by decide +kernel
theorem dX7_swapsRules_56 : decode cX7_swapsRules 56 = .ok (.iinc 3 1, 3) := by decide +kernel
theorem dX7_swapsRules_59 : decode cX7_swapsRules 59 = .ok (.goto (-57), 3) := by decide +kernel
theorem dX7_swapsRules_62 : decode cX7_swapsRules 62 = .ok (.return_, 1) := by decide +kernel
theorem dX7_clearsRules_0 : decode cX7_clearsRules 0 = .ok (.aload_n 0, 1) := by decide +kernel
theorem dX7_clearsRules_1 : decode cX7_clearsRules 1 = .ok (.getfield 58, 3) := by decide +kernel
theorem dX7_clearsRules_4 : decode cX7_clearsRules 4 = .ok (.bipush 9, 2) := by decide +kernel
theorem dX7_clearsRules_6 : decode cX7_clearsRules 6 = .ok (.iload_n 1, 1) := by decide +kernel
theorem dX7_clearsRules_7 : decode cX7_clearsRules 7 = .ok (.imul, 1) := by decide +kernel
theorem dX7_clearsRules_8 : decode cX7_clearsRules 8 = .ok (.iload_n 3, 1) := by decide +kernel
theorem dX7_clearsRules_9 : decode cX7_clearsRules 9 = .ok (.iadd, 1) := by decide +kernel
theorem dX7_clearsRules_10 : decode cX7_clearsRules 10 = .ok (.laload, 1) := by decide +kernel
theorem dX7_clearsRules_11 : decode cX7_clearsRules 11 = .ok (.lstore 6, 2) := by decide +kernel
theorem dX7_clearsRules_13 : decode cX7_clearsRules 13 = .ok (.iconst 0, 1) := by decide +kernel
theorem dX7_clearsRules_14 : decode cX7_clearsRules 14 = .ok (.istore 8, 2) := by decide +kernel
theorem dX7_clearsRules_16 : decode cX7_clearsRules 16 = .ok (.iload 8, 2) := by decide +kernel
theorem dX7_clearsRules_18 : decode cX7_clearsRules 18 = .ok (.iload_n 2, 1) := by decide +kernel
theorem dX7_clearsRules_19 : decode cX7_clearsRules 19 = .ok (.if_icmp .ge 93, 3) := by decide +kernel
theorem dX7_clearsRules_22 : decode cX7_clearsRules 22 = .ok (.aload_n 0, 1) := by decide +kernel
theorem dX7_clearsRules_23 : decode cX7_clearsRules 23 = .ok (.getfield 58, 3) := by decide +kernel
theorem dX7_clearsRules_26 : decode cX7_clearsRules 26 = .ok (.bipush 9, 2) := by decide +kernel
theorem dX7_clearsRules_28 : decode cX7_clearsRules 28 = .ok (.iload 8, 2) := by decide +kernel
theorem dX7_clearsRules_30 : decode cX7_clearsRules 30 = .ok (.imul, 1) := by decide +kernel
theorem dX7_clearsRules_31 : decode cX7_clearsRules 31 = .ok (.iload_n 3, 1) := by decide +kernel
theorem dX7_clearsRules_32 : decode cX7_clearsRules 32 = .ok (.iadd, 1) := by decide +kernel
theorem dX7_clearsRules_33 : decode cX7_clearsRules 33 = .ok (.laload, 1) := by decide +kernel
theorem dX7_clearsRules_34 : decode cX7_clearsRules 34 = .ok (.lstore 9, 2) := by decide +kernel
theorem dX7_clearsRules_36 : decode cX7_clearsRules 36 = .ok (.iconst 0, 1) := by decide +kernel
theorem dX7_clearsRules_37 : decode cX7_clearsRules 37 = .ok (.istore 11, 2) := by decide +kernel
theorem dX7_clearsRules_39 : decode cX7_clearsRules 39 = .ok (.iload 11, 2) := by decide +kernel
theorem dX7_clearsRules_41 : decode cX7_clearsRules 41 = .ok (.bipush 9, 2) := by decide +kernel
theorem dX7_clearsRules_43 : decode cX7_clearsRules 43 = .ok (.if_icmp .ge 63, 3) := by decide +kernel
theorem dX7_clearsRules_46 : decode cX7_clearsRules 46 = .ok (.iload 8, 2) := by decide +kernel
theorem dX7_clearsRules_48 : decode cX7_clearsRules 48 = .ok (.iload_n 1, 1) := by decide +kernel
theorem dX7_clearsRules_49 : decode cX7_clearsRules 49 = .ok (.if_icmp .eq 57, 3) := by decide +kernel
theorem dX7_clearsRules_52 : decode cX7_clearsRules 52 = .ok (.aload_n 0, 1) := by decide +kernel
theorem dX7_clearsRules_53 : decode cX7_clearsRules 53 = .ok (.getfield 58, 3) := by decide +kernel
theorem dX7_clearsRules_56 : decode cX7_clearsRules 56 = .ok (.bipush 9, 2) := by decide +kernel
theorem dX7_clearsRules_58 : decode cX7_clearsRules 58 = .ok (.iload 8, 2) := by decide +kernel
theorem dX7_clearsRules_60 : decode cX7_clearsRules 60 = .ok (.imul, 1) := by decide +kernel
theorem dX7_clearsRules_61 : decode cX7_clearsRules 61 = .ok (.iload 11, 2) := by decide +kernel
theorem dX7_clearsRules_63 : decode cX7_clearsRules 63 = .ok (.iadd, 1) := by decide +kernel
theorem dX7_clearsRules_64 : decode cX7_clearsRules 64 = .ok (.lload 6, 2) := by decide +kernel
theorem dX7_clearsRules_66 : decode cX7_clearsRules 66 = .ok (.aload_n 0, 1) := by decide +kernel
theorem dX7_clearsRules_67 : decode cX7_clearsRules 67 = .ok (.getfield 58, 3) := by decide +kernel
theorem dX7_clearsRules_70 : decode cX7_clearsRules 70 = .ok (.bipush 9, 2) := by decide +kernel
theorem dX7_clearsRules_72 : decode cX7_clearsRules 72 = .ok (.iload 8, 2) := by decide +kernel
theorem dX7_clearsRules_74 : decode cX7_clearsRules 74 = .ok (.imul, 1) := by decide +kernel
theorem dX7_clearsRules_75 : decode cX7_clearsRules 75 = .ok (.iload 11, 2) := by decide +kernel
theorem dX7_clearsRules_77 : decode cX7_clearsRules 77 = .ok (.iadd, 1) := by decide +kernel
theorem dX7_clearsRules_78 : decode cX7_clearsRules 78 = .ok (.laload, 1) := by decide +kernel
theorem dX7_clearsRules_79 : decode cX7_clearsRules 79 = .ok (.lmul, 1) := by decide +kernel
theorem dX7_clearsRules_80 : decode cX7_clearsRules 80 = .ok (.lload 9, 2) := by decide +kernel
theorem dX7_clearsRules_82 : decode cX7_clearsRules 82 = .ok (.aload_n 0, 1) := by decide +kernel
theorem dX7_clearsRules_83 : decode cX7_clearsRules 83 = .ok (.getfield 58, 3) := by decide +kernel
theorem dX7_clearsRules_86 : decode cX7_clearsRules 86 = .ok (.bipush 9, 2) := by decide +kernel
theorem dX7_clearsRules_88 : decode cX7_clearsRules 88 = .ok (.iload_n 1, 1) := by decide +kernel
theorem dX7_clearsRules_89 : decode cX7_clearsRules 89 = .ok (.imul, 1) := by decide +kernel
theorem dX7_clearsRules_90 : decode cX7_clearsRules 90 = .ok (.iload 11, 2) := by decide +kernel
theorem dX7_clearsRules_92 : decode cX7_clearsRules 92 = .ok (.iadd, 1) := by decide +kernel
theorem dX7_clearsRules_93 : decode cX7_clearsRules 93 = .ok (.laload, 1) := by decide +kernel
theorem dX7_clearsRules_94 : decode cX7_clearsRules 94 = .ok (.lmul, 1) := by decide +kernel
theorem dX7_clearsRules_95 : decode cX7_clearsRules 95 = .ok (.lsub, 1) := by decide +kernel
theorem dX7_clearsRules_96 : decode cX7_clearsRules 96 = .ok (.lload 4, 2) := by decide +kernel
theorem dX7_clearsRules_98 : decode cX7_clearsRules 98 = .ok (.ldiv, 1) := by decide +kernel
theorem dX7_clearsRules_99 : decode cX7_clearsRules 99 = .ok (.lastore, 1) := by decide +kernel
theorem dX7_clearsRules_100 : decode cX7_clearsRules 100 = .ok (.iinc 11 1, 3) := by decide +kernel
theorem dX7_clearsRules_103 : decode cX7_clearsRules 103 = .ok (.goto (-64), 3) := by decide +kernel
theorem dX7_clearsRules_106 : decode cX7_clearsRules 106 = .ok (.iinc 8 1, 3) := by decide +kernel
theorem dX7_clearsRules_109 : decode cX7_clearsRules 109 = .ok (.goto (-93), 3) := by decide +kernel
theorem dX7_clearsRules_112 : decode cX7_clearsRules 112 = .ok (.lload 6, 2) := by decide +kernel
theorem dX7_clearsRules_114 : decode cX7_clearsRules 114 = .ok (.lreturn, 1) := by decide +kernel
theorem dX7_worksRules_0 : decode cX7_worksRules 0 = .ok (.aload_n 0, 1) := by decide +kernel
theorem dX7_worksRules_1 : decode cX7_worksRules 1 = .ok (.iload_n 1, 1) := by decide +kernel
theorem dX7_worksRules_2 : decode cX7_worksRules 2 = .ok (.invokevirtual 212, 3) := by decide +kernel
theorem dX7_worksRules_5 : decode cX7_worksRules 5 = .ok (.istore_n 3, 1) := by decide +kernel
theorem dX7_worksRules_6 : decode cX7_worksRules 6 = .ok (.iconst 0, 1) := by decide +kernel
theorem dX7_worksRules_7 : decode cX7_worksRules 7 = .ok (.istore 4, 2) := by decide +kernel
theorem dX7_worksRules_9 : decode cX7_worksRules 9 = .ok (.iload 4, 2) := by decide +kernel
theorem dX7_worksRules_11 : decode cX7_worksRules 11 = .ok (.iload_n 3, 1) := by decide +kernel
theorem dX7_worksRules_12 : decode cX7_worksRules 12 = .ok (.if_icmp .ge 68, 3) := by decide +kernel
theorem dX7_worksRules_15 : decode cX7_worksRules 15 = .ok (.iconst 0, 1) := by decide +kernel
theorem dX7_worksRules_16 : decode cX7_worksRules 16 = .ok (.istore 5, 2) := by decide +kernel
theorem dX7_worksRules_18 : decode cX7_worksRules 18 = .ok (.iload 5, 2) := by decide +kernel
theorem dX7_worksRules_20 : decode cX7_worksRules 20 = .ok (.bipush 9, 2) := by decide +kernel
theorem dX7_worksRules_22 : decode cX7_worksRules 22 = .ok (.if_icmp .ge 52, 3) := by decide +kernel
theorem dX7_worksRules_25 : decode cX7_worksRules 25 = .ok (.aload_n 0, 1) := by decide +kernel
theorem dX7_worksRules_26 : decode cX7_worksRules 26 = .ok (.getfield 58, 3) := by decide +kernel
theorem dX7_worksRules_29 : decode cX7_worksRules 29 = .ok (.bipush 9, 2) := by decide +kernel
theorem dX7_worksRules_31 : decode cX7_worksRules 31 = .ok (.iload 4, 2) := by decide +kernel
theorem dX7_worksRules_33 : decode cX7_worksRules 33 = .ok (.imul, 1) := by decide +kernel
theorem dX7_worksRules_34 : decode cX7_worksRules 34 = .ok (.iload 5, 2) := by decide +kernel
theorem dX7_worksRules_36 : decode cX7_worksRules 36 = .ok (.iadd, 1) := by decide +kernel
theorem dX7_worksRules_37 : decode cX7_worksRules 37 = .ok (.iload 5, 2) := by decide +kernel
theorem dX7_worksRules_39 : decode cX7_worksRules 39 = .ok (.aload_n 0, 1) := by decide +kernel
theorem dX7_worksRules_40 : decode cX7_worksRules 40 = .ok (.getfield 19, 3) := by decide +kernel
theorem dX7_worksRules_43 : decode cX7_worksRules 43 = .ok (.aload_n 0, 1) := by decide +kernel
theorem dX7_worksRules_44 : decode cX7_worksRules 44 = .ok (.getfield 23, 3) := by decide +kernel
theorem dX7_worksRules_47 : decode cX7_worksRules 47 = .ok (.imul, 1) := by decide +kernel
theorem dX7_worksRules_48 : decode cX7_worksRules 48 = .ok (.if_icmp .ge 18, 3) := by decide +kernel
theorem dX7_worksRules_51 : decode cX7_worksRules 51 = .ok (.aload_n 0, 1) := by decide +kernel
theorem dX7_worksRules_52 : decode cX7_worksRules 52 = .ok (.iload_n 1, 1) := by decide +kernel
theorem dX7_worksRules_53 : decode cX7_worksRules 53 = .ok (.iload_n 1, 1) := by decide +kernel
theorem dX7_worksRules_54 : decode cX7_worksRules 54 = .ok (.iload_n 2, 1) := by decide +kernel
theorem dX7_worksRules_55 : decode cX7_worksRules 55 = .ok (.iload 5, 2) := by decide +kernel
theorem dX7_worksRules_57 : decode cX7_worksRules 57 = .ok (.iload 4, 2) := by decide +kernel
theorem dX7_worksRules_59 : decode cX7_worksRules 59 = .ok (.invokevirtual 249, 3) := by decide +kernel
theorem dX7_worksRules_62 : decode cX7_worksRules 62 = .ok (.i2l, 1) := by decide +kernel
theorem dX7_worksRules_63 : decode cX7_worksRules 63 = .ok (.goto 4, 3) := by decide +kernel
theorem dX7_worksRules_66 : decode cX7_worksRules 66 = .ok (.lconst 0, 1) := by decide +kernel
theorem dX7_worksRules_67 : decode cX7_worksRules 67 = .ok (.lastore, 1) := by decide +kernel
theorem dX7_worksRules_68 : decode cX7_worksRules 68 = .ok (.iinc 5 1, 3) := by decide +kernel
theorem dX7_worksRules_71 : decode cX7_worksRules 71 = .ok (.goto (-53), 3) := by decide +kernel
theorem dX7_worksRules_74 : decode cX7_worksRules 74 = .ok (.iinc 4 1, 3) := by decide +kernel
theorem dX7_worksRules_77 : decode cX7_worksRules 77 = .ok (.goto (-68), 3) := by decide +kernel
theorem dX7_worksRules_80 : decode cX7_worksRules 80 = .ok (.lconst 1, 1) := by decide +kernel
theorem dX7_worksRules_81 : decode cX7_worksRules 81 = .ok (.lstore 4, 2) := by decide +kernel
theorem dX7_worksRules_83 : decode cX7_worksRules 83 = .ok (.iconst 0, 1) := by decide +kernel
theorem dX7_worksRules_84 : decode cX7_worksRules 84 = .ok (.istore 6, 2) := by decide +kernel
theorem dX7_worksRules_86 : decode cX7_worksRules 86 = .ok (.iconst 0, 1) := by decide +kernel
theorem dX7_worksRules_87 : decode cX7_worksRules 87 = .ok (.istore 7, 2) := by decide +kernel
theorem dX7_worksRules_89 : decode cX7_worksRules 89 = .ok (.iload 7, 2) := by decide +kernel
theorem dX7_worksRules_91 : decode cX7_worksRules 91 = .ok (.aload_n 0, 1) := by decide +kernel
theorem dX7_worksRules_92 : decode cX7_worksRules 92 = .ok (.getfield 19, 3) := by decide +kernel
theorem dX7_worksRules_95 : decode cX7_worksRules 95 = .ok (.aload_n 0, 1) := by decide +kernel
theorem dX7_worksRules_96 : decode cX7_worksRules 96 = .ok (.getfield 23, 3) := by decide +kernel
theorem dX7_worksRules_99 : decode cX7_worksRules 99 = .ok (.imul, 1) := by decide +kernel
theorem dX7_worksRules_100 : decode cX7_worksRules 100 = .ok (.if_icmp .ge 92, 3) := by decide +kernel
theorem dX7_worksRules_103 : decode cX7_worksRules 103 = .ok (.iload 6, 2) := by decide +kernel
theorem dX7_worksRules_105 : decode cX7_worksRules 105 = .ok (.istore 8, 2) := by decide +kernel
theorem dX7_worksRules_107 : decode cX7_worksRules 107 = .ok (.iload 8, 2) := by decide +kernel
theorem dX7_worksRules_109 : decode cX7_worksRules 109 = .ok (.iload_n 3, 1) := by decide +kernel
theorem dX7_worksRules_110 : decode cX7_worksRules 110 = .ok (.if_icmp .ge 27, 3) := by decide +kernel
theorem dX7_worksRules_113 : decode cX7_worksRules 113 = .ok (.aload_n 0, 1) := by decide +kernel
theorem dX7_worksRules_114 : decode cX7_worksRules 114 = .ok (.getfield 58, 3) := by decide +kernel
theorem dX7_worksRules_117 : decode cX7_worksRules 117 = .ok (.bipush 9, 2) := by decide +kernel
theorem dX7_worksRules_119 : decode cX7_worksRules 119 = .ok (.iload 8, 2) := by decide +kernel
theorem dX7_worksRules_121 : decode cX7_worksRules 121 = .ok (.imul, 1) := by decide +kernel
theorem dX7_worksRules_122 : decode cX7_worksRules 122 = .ok (.iload 7, 2) := by decide +kernel
theorem dX7_worksRules_124 : decode cX7_worksRules 124 = .ok (.iadd, 1) := by decide +kernel
theorem dX7_worksRules_125 : decode cX7_worksRules 125 = .ok (.laload, 1) := by decide +kernel
theorem dX7_worksRules_126 : decode cX7_worksRules 126 = .ok (.lconst 0, 1) := by decide +kernel
theorem dX7_worksRules_127 : decode cX7_worksRules 127 = .ok (.lcmp, 1) := by decide +kernel
theorem dX7_worksRules_128 : decode cX7_worksRules 128 = .ok (.ifCond .ne 9, 3) := by decide +kernel
theorem dX7_worksRules_131 : decode cX7_worksRules 131 = .ok (.iinc 8 1, 3) := by decide +kernel
theorem dX7_worksRules_134 : decode cX7_worksRules 134 = .ok (.goto (-27), 3) := by decide +kernel
theorem dX7_worksRules_137 : decode cX7_worksRules 137 = .ok (.aload_n 0, 1) := by decide +kernel
theorem dX7_worksRules_138 : decode cX7_worksRules 138 = .ok (.getfield 64, 3) := by decide +kernel
theorem dX7_worksRules_141 : decode cX7_worksRules 141 = .ok (.iload 7, 2) := by decide +kernel
theorem dX7_worksRules_143 : decode cX7_worksRules 143 = .ok (.iload 8, 2) := by decide +kernel
theorem dX7_worksRules_145 : decode cX7_worksRules 145 = .ok (.iload_n 3, 1) := by decide +kernel
theorem dX7_worksRules_146 : decode cX7_worksRules 146 = .ok (.if_icmp .ge 8, 3) := by decide +kernel
theorem dX7_worksRules_149 : decode cX7_worksRules 149 = .ok (.iload 6, 2) := by decide +kernel
theorem dX7_worksRules_151 : decode cX7_worksRules 151 = .ok (.goto 4, 3) := by decide +kernel
theorem dX7_worksRules_154 : decode cX7_worksRules 154 = .ok (.iconst (-1), 1) := by decide +kernel
theorem dX7_worksRules_155 : decode cX7_worksRules 155 = .ok (.iastore, 1) := by decide +kernel
theorem dX7_worksRules_156 : decode cX7_worksRules 156 = .ok (.iload 8, 2) := by decide +kernel
theorem dX7_worksRules_158 : decode cX7_worksRules 158 = .ok (.iload_n 3, 1) := by decide +kernel
theorem dX7_worksRules_159 : decode cX7_worksRules 159 = .ok (.if_icmp .ge 27, 3) := by decide +kernel
theorem dX7_worksRules_162 : decode cX7_worksRules 162 = .ok (.aload_n 0, 1) := by decide +kernel
theorem dX7_worksRules_163 : decode cX7_worksRules 163 = .ok (.iload 8, 2) := by decide +kernel
theorem dX7_worksRules_165 : decode cX7_worksRules 165 = .ok (.iload 6, 2) := by decide +kernel
theorem dX7_worksRules_167 : decode cX7_worksRules 167 = .ok (.invokevirtual 286, 3) := by decide +kernel
theorem dX7_worksRules_170 : decode cX7_worksRules 170 = .ok (.aload_n 0, 1) := by decide +kernel
theorem dX7_worksRules_171 : decode cX7_worksRules 171 = .ok (.iload 6, 2) := by decide +kernel
theorem dX7_worksRules_173 : decode cX7_worksRules 173 = .ok (.iload_n 3, 1) := by decide +kernel
theorem dX7_worksRules_174 : decode cX7_worksRules 174 = .ok (.iload 7, 2) := by decide +kernel
theorem dX7_worksRules_176 : decode cX7_worksRules 176 = .ok (.lload 4, 2) := by decide +kernel
theorem dX7_worksRules_178 : decode cX7_worksRules 178 = .ok (.invokevirtual 289, 3) := by decide +kernel
theorem dX7_worksRules_181 : decode cX7_worksRules 181 = .ok (.lstore 4, 2) := by decide +kernel
theorem dX7_worksRules_183 : decode cX7_worksRules 183 = .ok (.iinc 6 1, 3) := by decide +kernel
theorem dX7_worksRules_186 : decode cX7_worksRules 186 = .ok (.iinc 7 1, 3) := by decide +kernel
theorem dX7_worksRules_189 : decode cX7_worksRules 189 = .ok (.goto (-100), 3) := by decide +kernel
theorem dX7_worksRules_192 : decode cX7_worksRules 192 = .ok (.iconst 0, 1) := by decide +kernel
theorem dX7_worksRules_193 : decode cX7_worksRules 193 = .ok (.istore 7, 2) := by decide +kernel
theorem dX7_worksRules_195 : decode cX7_worksRules 195 = .ok (.iload 7, 2) := by decide +kernel
theorem dX7_worksRules_197 : decode cX7_worksRules 197 = .ok (.aload_n 0, 1) := by decide +kernel
theorem dX7_worksRules_198 : decode cX7_worksRules 198 = .ok (.getfield 19, 3) := by decide +kernel
theorem dX7_worksRules_201 : decode cX7_worksRules 201 = .ok (.aload_n 0, 1) := by decide +kernel
theorem dX7_worksRules_202 : decode cX7_worksRules 202 = .ok (.getfield 23, 3) := by decide +kernel
theorem dX7_worksRules_205 : decode cX7_worksRules 205 = .ok (.imul, 1) := by decide +kernel
theorem dX7_worksRules_206 : decode cX7_worksRules 206 = .ok (.if_icmp .ge 125, 3) := by decide +kernel
theorem dX7_worksRules_209 : decode cX7_worksRules 209 = .ok (.aload_n 0, 1) := by decide +kernel
theorem dX7_worksRules_210 : decode cX7_worksRules 210 = .ok (.getfield 61, 3) := by decide +kernel
theorem dX7_worksRules_213 : decode cX7_worksRules 213 = .ok (.iload 7, 2) := by decide +kernel
theorem dX7_worksRules_215 : decode cX7_worksRules 215 = .ok (.lload 4, 2) := by decide +kernel
theorem dX7_worksRules_217 : decode cX7_worksRules 217 = .ok (.aload_n 0, 1) := by decide +kernel
theorem dX7_worksRules_218 : decode cX7_worksRules 218 = .ok (.iconst 2, 1) := by decide +kernel
theorem dX7_worksRules_219 : decode cX7_worksRules 219 = .ok (.iload 7, 2) := by decide +kernel
theorem dX7_worksRules_221 : decode cX7_worksRules 221 = .ok (.aload_n 0, 1) := by decide +kernel
theorem dX7_worksRules_222 : decode cX7_worksRules 222 = .ok (.getfield 23, 3) := by decide +kernel
theorem dX7_worksRules_225 : decode cX7_worksRules 225 = .ok (.idiv, 1) := by decide +kernel
theorem dX7_worksRules_226 : decode cX7_worksRules 226 = .ok (.iload 7, 2) := by decide +kernel
theorem dX7_worksRules_228 : decode cX7_worksRules 228 = .ok (.aload_n 0, 1) := by decide +kernel
theorem dX7_worksRules_229 : decode cX7_worksRules 229 = .ok (.getfield 23, 3) := by decide +kernel
theorem dX7_worksRules_232 : decode cX7_worksRules 232 = .ok (.irem, 1) := by decide +kernel
theorem dX7_worksRules_233 : decode cX7_worksRules 233 = .ok (.invokevirtual 128, 3) := by decide +kernel
theorem dX7_worksRules_236 : decode cX7_worksRules 236 = .ok (.i2l, 1) := by decide +kernel
theorem dX7_worksRules_237 : decode cX7_worksRules 237 = .ok (.lmul, 1) := by decide +kernel
theorem dX7_worksRules_238 : decode cX7_worksRules 238 = .ok (.lastore, 1) := by decide +kernel
theorem dX7_worksRules_239 : decode cX7_worksRules 239 = .ok (.iconst 0, 1) := by decide +kernel
theorem dX7_worksRules_240 : decode cX7_worksRules 240 = .ok (.istore 8, 2) := by decide +kernel
theorem dX7_worksRules_242 : decode cX7_worksRules 242 = .ok (.iload 8, 2) := by decide +kernel
theorem dX7_worksRules_244 : decode cX7_worksRules 244 = .ok (.aload_n 0, 1) := by decide +kernel
theorem dX7_worksRules_245 : decode cX7_worksRules 245 = .ok (.getfield 19, 3) := by decide +kernel
theorem dX7_worksRules_248 : decode cX7_worksRules 248 = .ok (.aload_n 0, 1) := by decide +kernel
theorem dX7_worksRules_249 : decode cX7_worksRules 249 = .ok (.getfield 23, 3) := by decide +kernel
theorem dX7_worksRules_252 : decode cX7_worksRules 252 = .ok (.imul, 1) := by decide +kernel
theorem dX7_worksRules_253 : decode cX7_worksRules 253 = .ok (.if_icmp .ge 72, 3) := by decide +kernel
theorem dX7_worksRules_256 : decode cX7_worksRules 256 = .ok (.aload_n 0, 1) := by decide +kernel
theorem dX7_worksRules_257 : decode cX7_worksRules 257 = .ok (.getfield 61, 3) := by decide +kernel
theorem dX7_worksRules_260 : decode cX7_worksRules 260 = .ok (.iload 7, 2) := by decide +kernel
theorem dX7_worksRules_262 : decode cX7_worksRules 262 = .ok (.dup2, 1) := by decide +kernel
theorem dX7_worksRules_263 : decode cX7_worksRules 263 = .ok (.laload, 1) := by decide +kernel
theorem dX7_worksRules_264 : decode cX7_worksRules 264 = .ok (.aload_n 0, 1) := by decide +kernel
theorem dX7_worksRules_265 : decode cX7_worksRules 265 = .ok (.getfield 64, 3) := by decide +kernel
theorem dX7_worksRules_268 : decode cX7_worksRules 268 = .ok (.iload 8, 2) := by decide +kernel
theorem dX7_worksRules_270 : decode cX7_worksRules 270 = .ok (.iaload, 1) := by decide +kernel
theorem dX7_worksRules_271 : decode cX7_worksRules 271 = .ok (.ifCond .ge 7, 3) := by decide +kernel
theorem dX7_worksRules_274 : decode cX7_worksRules 274 = .ok (.lconst 0, 1) := by decide +kernel
theorem dX7_worksRules_275 : decode cX7_worksRules 275 = .ok (.goto 42, 3) := by decide +kernel
theorem dX7_worksRules_278 : decode cX7_worksRules 278 = .ok (.aload_n 0, 1) := by decide +kernel
theorem dX7_worksRules_279 : decode cX7_worksRules 279 = .ok (.iconst 2, 1) := by decide +kernel
theorem dX7_worksRules_280 : decode cX7_worksRules 280 = .ok (.iload 8, 2) := by decide +kernel
theorem dX7_worksRules_282 : decode cX7_worksRules 282 = .ok (.aload_n 0, 1) := by decide +kernel
theorem dX7_worksRules_283 : decode cX7_worksRules 283 = .ok (.getfield 23, 3) := by decide +kernel
theorem dX7_worksRules_286 : decode cX7_worksRules 286 = .ok (.idiv, 1) := by decide +kernel
theorem dX7_worksRules_287 : decode cX7_worksRules 287 = .ok (.iload 8, 2) := by decide +kernel
theorem dX7_worksRules_289 : decode cX7_worksRules 289 = .ok (.aload_n 0, 1) := by decide +kernel
theorem dX7_worksRules_290 : decode cX7_worksRules 290 = .ok (.getfield 23, 3) := by decide +kernel
theorem dX7_worksRules_293 : decode cX7_worksRules 293 = .ok (.irem, 1) := by decide +kernel
theorem dX7_worksRules_294 : decode cX7_worksRules 294 = .ok (.invokevirtual 128, 3) := by decide +kernel
theorem dX7_worksRules_297 : decode cX7_worksRules 297 = .ok (.i2l, 1) := by decide +kernel
theorem dX7_worksRules_298 : decode cX7_worksRules 298 = .ok (.aload_n 0, 1) := by decide +kernel
theorem dX7_worksRules_299 : decode cX7_worksRules 299 = .ok (.getfield 58, 3) := by decide +kernel
theorem dX7_worksRules_302 : decode cX7_worksRules 302 = .ok (.bipush 9, 2) := by decide +kernel
theorem dX7_worksRules_304 : decode cX7_worksRules 304 = .ok (.aload_n 0, 1) := by decide +kernel
theorem dX7_worksRules_305 : decode cX7_worksRules 305 = .ok (.getfield 64, 3) := by decide +kernel
theorem dX7_worksRules_308 : decode cX7_worksRules 308 = .ok (.iload 8, 2) := by decide +kernel
theorem dX7_worksRules_310 : decode cX7_worksRules 310 = .ok (.iaload, 1) := by decide +kernel
theorem dX7_worksRules_311 : decode cX7_worksRules 311 = .ok (.imul, 1) := by decide +kernel
theorem dX7_worksRules_312 : decode cX7_worksRules 312 = .ok (.iload 7, 2) := by decide +kernel
theorem dX7_worksRules_314 : decode cX7_worksRules 314 = .ok (.iadd, 1) := by decide +kernel
theorem dX7_worksRules_315 : decode cX7_worksRules 315 = .ok (.laload, 1) := by decide +kernel
theorem dX7_worksRules_316 : decode cX7_worksRules 316 = .ok (.lmul, 1) := by decide +kernel
theorem dX7_worksRules_317 : decode cX7_worksRules 317 = .ok (.lsub, 1) := by decide +kernel
theorem dX7_worksRules_318 : decode cX7_worksRules 318 = .ok (.lastore, 1) := by decide +kernel
theorem dX7_worksRules_319 : decode cX7_worksRules 319 = .ok (.iinc 8 1, 3) := by decide +kernel
theorem dX7_worksRules_322 : decode cX7_worksRules 322 = .ok (.goto (-80), 3) := by decide +kernel
theorem dX7_worksRules_325 : decode cX7_worksRules 325 = .ok (.iinc 7 1, 3) := by decide +kernel
theorem dX7_worksRules_328 : decode cX7_worksRules 328 = .ok (.goto (-133), 3) := by decide +kernel
theorem dX7_worksRules_331 : decode cX7_worksRules 331 = .ok (.lload 4, 2) := by decide +kernel
theorem dX7_worksRules_333 : decode cX7_worksRules 333 = .ok (.lreturn, 1) := by decide +kernel
theorem dX7_witness_0 : decode cX7_witness 0 = .ok (.aload_n 0, 1) := by decide +kernel
theorem dX7_witness_1 : decode cX7_witness 1 = .ok (.iload_n 1, 1) := by decide +kernel
theorem dX7_witness_2 : decode cX7_witness 2 = .ok (.iload_n 2, 1) := by decide +kernel
theorem dX7_witness_3 : decode cX7_witness 3 = .ok (.iload_n 3, 1) := by decide +kernel
theorem dX7_witness_4 : decode cX7_witness 4 = .ok (.iload 4, 2) := by decide +kernel
theorem dX7_witness_6 : decode cX7_witness 6 = .ok (.invokevirtual 274, 3) := by decide +kernel
theorem dX7_witness_9 : decode cX7_witness 9 = .ok (.ifCond .ne 8, 3) := by decide +kernel
theorem dX7_witness_12 : decode cX7_witness 12 = .ok (.iconst (-1), 1) := by decide +kernel
theorem dX7_witness_13 : decode cX7_witness 13 = .ok (.invokestatic 140, 3) := by decide +kernel
theorem dX7_witness_16 : decode cX7_witness 16 = .ok (.lreturn, 1) := by decide +kernel
theorem dX7_witness_17 : decode cX7_witness 17 = .ok (.aload_n 0, 1) := by decide +kernel
theorem dX7_witness_18 : decode cX7_witness 18 = .ok (.aload_n 0, 1) := by decide +kernel
theorem dX7_witness_19 : decode cX7_witness 19 = .ok (.getfield 29, 3) := by decide +kernel
theorem dX7_witness_22 : decode cX7_witness 22 = .ok (.iload_n 1, 1) := by decide +kernel
theorem dX7_witness_23 : decode cX7_witness 23 = .ok (.iaload, 1) := by decide +kernel
theorem dX7_witness_24 : decode cX7_witness 24 = .ok (.invokevirtual 259, 3) := by decide +kernel
theorem dX7_witness_27 : decode cX7_witness 27 = .ok (.ifCond .ne 9, 3) := by decide +kernel
theorem dX7_witness_30 : decode cX7_witness 30 = .ok (.bipush (-4), 2) := by decide +kernel
theorem dX7_witness_32 : decode cX7_witness 32 = .ok (.invokestatic 140, 3) := by decide +kernel
theorem dX7_witness_35 : decode cX7_witness 35 = .ok (.lreturn, 1) := by decide +kernel
theorem dX7_witness_36 : decode cX7_witness 36 = .ok (.aload_n 0, 1) := by decide +kernel
theorem dX7_witness_37 : decode cX7_witness 37 = .ok (.aload_n 0, 1) := by decide +kernel
theorem dX7_witness_38 : decode cX7_witness 38 = .ok (.getfield 29, 3) := by decide +kernel
theorem dX7_witness_41 : decode cX7_witness 41 = .ok (.iload_n 1, 1) := by decide +kernel
theorem dX7_witness_42 : decode cX7_witness 42 = .ok (.iaload, 1) := by decide +kernel
theorem dX7_witness_43 : decode cX7_witness 43 = .ok (.aload_n 0, 1) := by decide +kernel
theorem dX7_witness_44 : decode cX7_witness 44 = .ok (.getfield 32, 3) := by decide +kernel
theorem dX7_witness_47 : decode cX7_witness 47 = .ok (.iload_n 1, 1) := by decide +kernel
theorem dX7_witness_48 : decode cX7_witness 48 = .ok (.iaload, 1) := by decide +kernel
theorem dX7_witness_49 : decode cX7_witness 49 = .ok (.invokevirtual 293, 3) := by decide +kernel
theorem dX7_witness_52 : decode cX7_witness 52 = .ok (.lstore 5, 2) := by decide +kernel
theorem dX7_witness_54 : decode cX7_witness 54 = .ok (.iconst 0, 1) := by decide +kernel
theorem dX7_witness_55 : decode cX7_witness 55 = .ok (.istore 7, 2) := by decide +kernel
theorem dX7_witness_57 : decode cX7_witness 57 = .ok (.iload 7, 2) := by decide +kernel
theorem dX7_witness_59 : decode cX7_witness 59 = .ok (.aload_n 0, 1) := by decide +kernel
theorem dX7_witness_60 : decode cX7_witness 60 = .ok (.getfield 19, 3) := by decide +kernel
theorem dX7_witness_63 : decode cX7_witness 63 = .ok (.aload_n 0, 1) := by decide +kernel
theorem dX7_witness_64 : decode cX7_witness 64 = .ok (.getfield 23, 3) := by decide +kernel
theorem dX7_witness_67 : decode cX7_witness 67 = .ok (.imul, 1) := by decide +kernel
theorem dX7_witness_68 : decode cX7_witness 68 = .ok (.if_icmp .ge 21, 3) := by decide +kernel
theorem dX7_witness_71 : decode cX7_witness 71 = .ok (.aload_n 0, 1) := by decide +kernel
theorem dX7_witness_72 : decode cX7_witness 72 = .ok (.getfield 61, 3) := by decide +kernel
theorem dX7_witness_75 : decode cX7_witness 75 = .ok (.iload 7, 2) := by decide +kernel
theorem dX7_witness_77 : decode cX7_witness 77 = .ok (.laload, 1) := by decide +kernel
theorem dX7_witness_78 : decode cX7_witness 78 = .ok (.lconst 0, 1) := by decide +kernel
theorem dX7_witness_79 : decode cX7_witness 79 = .ok (.lcmp, 1) := by decide +kernel
theorem dX7_witness_80 : decode cX7_witness 80 = .ok (.ifCond .ne 9, 3) := by decide +kernel
theorem dX7_witness_83 : decode cX7_witness 83 = .ok (.iinc 7 1, 3) := by decide +kernel
theorem dX7_witness_86 : decode cX7_witness 86 = .ok (.goto (-29), 3) := by decide +kernel
theorem dX7_witness_89 : decode cX7_witness 89 = .ok (.iload 7, 2) := by decide +kernel
theorem dX7_witness_91 : decode cX7_witness 91 = .ok (.aload_n 0, 1) := by decide +kernel
theorem dX7_witness_92 : decode cX7_witness 92 = .ok (.getfield 19, 3) := by decide +kernel
theorem dX7_witness_95 : decode cX7_witness 95 = .ok (.aload_n 0, 1) := by decide +kernel
theorem dX7_witness_96 : decode cX7_witness 96 = .ok (.getfield 23, 3) := by decide +kernel
theorem dX7_witness_99 : decode cX7_witness 99 = .ok (.imul, 1) := by decide +kernel
theorem dX7_witness_100 : decode cX7_witness 100 = .ok (.if_icmp .ne 9, 3) := by decide +kernel
theorem dX7_witness_103 : decode cX7_witness 103 = .ok (.bipush (-3), 2) := by decide +kernel
theorem dX7_witness_105 : decode cX7_witness 105 = .ok (.invokestatic 140, 3) := by decide +kernel
theorem dX7_witness_108 : decode cX7_witness 108 = .ok (.lreturn, 1) := by decide +kernel
theorem dX7_witness_109 : decode cX7_witness 109 = .ok (.aload_n 0, 1) := by decide +kernel
theorem dX7_witness_110 : decode cX7_witness 110 = .ok (.getfield 23, 3) := by decide +kernel
theorem dX7_witness_113 : decode cX7_witness 113 = .ok (.iload_n 2, 1) := by decide +kernel
theorem dX7_witness_114 : decode cX7_witness 114 = .ok (.imul, 1) := by decide +kernel
theorem dX7_witness_115 : decode cX7_witness 115 = .ok (.iload_n 3, 1) := by decide +kernel
theorem dX7_witness_116 : decode cX7_witness 116 = .ok (.iadd, 1) := by decide +kernel
theorem dX7_witness_117 : decode cX7_witness 117 = .ok (.istore 8, 2) := by decide +kernel
theorem dX7_witness_119 : decode cX7_witness 119 = .ok (.iload 8, 2) := by decide +kernel
theorem dX7_witness_121 : decode cX7_witness 121 = .ok (.iload 7, 2) := by decide +kernel
theorem dX7_witness_123 : decode cX7_witness 123 = .ok (.if_icmp .ne 8, 3) := by decide +kernel
theorem dX7_witness_126 : decode cX7_witness 126 = .ok (.lload 5, 2) := by decide +kernel
theorem dX7_witness_128 : decode cX7_witness 128 = .ok (.goto 36, 3) := by decide +kernel
theorem dX7_witness_131 : decode cX7_witness 131 = .ok (.aload_n 0, 1) := by decide +kernel
theorem dX7_witness_132 : decode cX7_witness 132 = .ok (.getfield 64, 3) := by decide +kernel
theorem dX7_witness_135 : decode cX7_witness 135 = .ok (.iload 8, 2) := by decide +kernel
theorem dX7_witness_137 : decode cX7_witness 137 = .ok (.iaload, 1) := by decide +kernel
theorem dX7_witness_138 : decode cX7_witness 138 = .ok (.ifCond .ge 7, 3) := by decide +kernel
theorem dX7_witness_141 : decode cX7_witness 141 = .ok (.lconst 0, 1) := by decide +kernel
theorem dX7_witness_142 : decode cX7_witness 142 = .ok (.goto 22, 3) := by decide +kernel
theorem dX7_witness_145 : decode cX7_witness 145 = .ok (.aload_n 0, 1) := by decide +kernel
theorem dX7_witness_146 : decode cX7_witness 146 = .ok (.getfield 58, 3) := by decide +kernel
theorem dX7_witness_149 : decode cX7_witness 149 = .ok (.bipush 9, 2) := by decide +kernel
theorem dX7_witness_151 : decode cX7_witness 151 = .ok (.aload_n 0, 1) := by decide +kernel
theorem dX7_witness_152 : decode cX7_witness 152 = .ok (.getfield 64, 3) := by decide +kernel
theorem dX7_witness_155 : decode cX7_witness 155 = .ok (.iload 8, 2) := by decide +kernel
theorem dX7_witness_157 : decode cX7_witness 157 = .ok (.iaload, 1) := by decide +kernel
theorem dX7_witness_158 : decode cX7_witness 158 = .ok (.imul, 1) := by decide +kernel
theorem dX7_witness_159 : decode cX7_witness 159 = .ok (.iload 7, 2) := by decide +kernel
theorem dX7_witness_161 : decode cX7_witness 161 = .ok (.iadd, 1) := by decide +kernel
theorem dX7_witness_162 : decode cX7_witness 162 = .ok (.laload, 1) := by decide +kernel
theorem dX7_witness_163 : decode cX7_witness 163 = .ok (.lneg, 1) := by decide +kernel
theorem dX7_witness_164 : decode cX7_witness 164 = .ok (.lstore 9, 2) := by decide +kernel
theorem dX7_witness_166 : decode cX7_witness 166 = .ok (.lload 9, 2) := by decide +kernel
theorem dX7_witness_168 : decode cX7_witness 168 = .ok (.aload_n 0, 1) := by decide +kernel
theorem dX7_witness_169 : decode cX7_witness 169 = .ok (.getfield 61, 3) := by decide +kernel
theorem dX7_witness_172 : decode cX7_witness 172 = .ok (.iload 7, 2) := by decide +kernel
theorem dX7_witness_174 : decode cX7_witness 174 = .ok (.laload, 1) := by decide +kernel
theorem dX7_witness_175 : decode cX7_witness 175 = .ok (.iload 4, 2) := by decide +kernel
theorem dX7_witness_177 : decode cX7_witness 177 = .ok (.invokestatic 282, 3) := by decide +kernel
theorem dX7_witness_180 : decode cX7_witness 180 = .ok (.lreturn, 1) := by decide +kernel
theorem dX7_isSmall_0 : decode cX7_isSmall 0 = .ok (.aload_n 0, 1) := by decide +kernel
theorem dX7_isSmall_1 : decode cX7_isSmall 1 = .ok (.aload_n 0, 1) := by decide +kernel
theorem dX7_isSmall_2 : decode cX7_isSmall 2 = .ok (.getfield 29, 3) := by decide +kernel
theorem dX7_isSmall_5 : decode cX7_isSmall 5 = .ok (.iload_n 1, 1) := by decide +kernel
theorem dX7_isSmall_6 : decode cX7_isSmall 6 = .ok (.iaload, 1) := by decide +kernel
theorem dX7_isSmall_7 : decode cX7_isSmall 7 = .ok (.invokevirtual 209, 3) := by decide +kernel
theorem dX7_isSmall_10 : decode cX7_isSmall 10 = .ok (.ifCond .eq 21, 3) := by decide +kernel
theorem dX7_isSmall_13 : decode cX7_isSmall 13 = .ok (.aload_n 0, 1) := by decide +kernel
theorem dX7_isSmall_14 : decode cX7_isSmall 14 = .ok (.getfield 19, 3) := by decide +kernel
theorem dX7_isSmall_17 : decode cX7_isSmall 17 = .ok (.aload_n 0, 1) := by decide +kernel
theorem dX7_isSmall_18 : decode cX7_isSmall 18 = .ok (.getfield 23, 3) := by decide +kernel
theorem dX7_isSmall_21 : decode cX7_isSmall 21 = .ok (.imul, 1) := by decide +kernel
theorem dX7_isSmall_22 : decode cX7_isSmall 22 = .ok (.bipush 6, 2) := by decide +kernel
theorem dX7_isSmall_24 : decode cX7_isSmall 24 = .ok (.if_icmp .gt 7, 3) := by decide +kernel
theorem dX7_isSmall_27 : decode cX7_isSmall 27 = .ok (.iconst 1, 1) := by decide +kernel
theorem dX7_isSmall_28 : decode cX7_isSmall 28 = .ok (.goto 4, 3) := by decide +kernel
theorem dX7_isSmall_31 : decode cX7_isSmall 31 = .ok (.iconst 0, 1) := by decide +kernel
theorem dX7_isSmall_32 : decode cX7_isSmall 32 = .ok (.ireturn, 1) := by decide +kernel
theorem dX7_similar_0 : decode cX7_similar 0 = .ok (.aload_n 0, 1) := by decide +kernel
theorem dX7_similar_1 : decode cX7_similar 1 = .ok (.iload_n 1, 1) := by decide +kernel
theorem dX7_similar_2 : decode cX7_similar 2 = .ok (.invokevirtual 203, 3) := by decide +kernel
theorem dX7_similar_5 : decode cX7_similar 5 = .ok (.ifCond .ne 5, 3) := by decide +kernel
theorem dX7_similar_8 : decode cX7_similar 8 = .ok (.iconst (-1), 1) := by decide +kernel
theorem dX7_similar_9 : decode cX7_similar 9 = .ok (.ireturn, 1) := by decide +kernel
theorem dX7_similar_10 : decode cX7_similar 10 = .ok (.aload_n 0, 1) := by decide +kernel
theorem dX7_similar_11 : decode cX7_similar 11 = .ok (.iload_n 1, 1) := by decide +kernel
theorem dX7_similar_12 : decode cX7_similar 12 = .ok (.invokevirtual 297, 3) := by decide +kernel
theorem dX7_similar_15 : decode cX7_similar 15 = .ok (.ifCond .ne 6, 3) := by decide +kernel
theorem dX7_similar_18 : decode cX7_similar 18 = .ok (.bipush (-4), 2) := by decide +kernel
theorem dX7_similar_20 : decode cX7_similar 20 = .ok (.ireturn, 1) := by decide +kernel
theorem dX7_similar_21 : decode cX7_similar 21 = .ok (.aload_n 0, 1) := by decide +kernel
theorem dX7_similar_22 : decode cX7_similar 22 = .ok (.aload_n 0, 1) := by decide +kernel
theorem dX7_similar_23 : decode cX7_similar 23 = .ok (.getfield 29, 3) := by decide +kernel
theorem dX7_similar_26 : decode cX7_similar 26 = .ok (.iload_n 1, 1) := by decide +kernel
theorem dX7_similar_27 : decode cX7_similar 27 = .ok (.iaload, 1) := by decide +kernel
theorem dX7_similar_28 : decode cX7_similar 28 = .ok (.iconst 0, 1) := by decide +kernel
theorem dX7_similar_29 : decode cX7_similar 29 = .ok (.aload_n 0, 1) := by decide +kernel
theorem dX7_similar_30 : decode cX7_similar 30 = .ok (.getfield 32, 3) := by decide +kernel
theorem dX7_similar_33 : decode cX7_similar 33 = .ok (.iload_n 1, 1) := by decide +kernel
theorem dX7_similar_34 : decode cX7_similar 34 = .ok (.iaload, 1) := by decide +kernel
theorem dX7_similar_35 : decode cX7_similar 35 = .ok (.iconst 0, 1) := by decide +kernel
theorem dX7_similar_36 : decode cX7_similar 36 = .ok (.invokevirtual 255, 3) := by decide +kernel
theorem dX7_similar_39 : decode cX7_similar 39 = .ok (.aload_n 0, 1) := by decide +kernel
theorem dX7_similar_40 : decode cX7_similar 40 = .ok (.invokevirtual 270, 3) := by decide +kernel
theorem dX7_similar_43 : decode cX7_similar 43 = .ok (.ifCond .eq 7, 3) := by decide +kernel
theorem dX7_similar_46 : decode cX7_similar 46 = .ok (.iconst 1, 1) := by decide +kernel
theorem dX7_similar_47 : decode cX7_similar 47 = .ok (.goto 4, 3) := by decide +kernel
theorem dX7_similar_50 : decode cX7_similar 50 = .ok (.iconst 0, 1) := by decide +kernel
theorem dX7_similar_51 : decode cX7_similar 51 = .ok (.ireturn, 1) := by decide +kernel
theorem dX7_whole_0 : decode cX7_whole 0 = .ok (.aload_n 0, 1) := by decide +kernel
theorem dX7_whole_1 : decode cX7_whole 1 = .ok (.iload_n 1, 1) := by decide +kernel
theorem dX7_whole_2 : decode cX7_whole 2 = .ok (.invokevirtual 203, 3) := by decide +kernel
theorem dX7_whole_5 : decode cX7_whole 5 = .ok (.ifCond .ne 8, 3) := by decide +kernel
theorem dX7_whole_8 : decode cX7_whole 8 = .ok (.iconst (-1), 1) := by decide +kernel
theorem dX7_whole_9 : decode cX7_whole 9 = .ok (.invokestatic 140, 3) := by decide +kernel
theorem dX7_whole_12 : decode cX7_whole 12 = .ok (.lreturn, 1) := by decide +kernel
theorem dX7_whole_13 : decode cX7_whole 13 = .ok (.aload_n 0, 1) := by decide +kernel
theorem dX7_whole_14 : decode cX7_whole 14 = .ok (.iload_n 1, 1) := by decide +kernel
theorem dX7_whole_15 : decode cX7_whole 15 = .ok (.invokevirtual 297, 3) := by decide +kernel
theorem dX7_whole_18 : decode cX7_whole 18 = .ok (.ifCond .ne 9, 3) := by decide +kernel
theorem dX7_whole_21 : decode cX7_whole 21 = .ok (.bipush (-4), 2) := by decide +kernel
theorem dX7_whole_23 : decode cX7_whole 23 = .ok (.invokestatic 140, 3) := by decide +kernel
theorem dX7_whole_26 : decode cX7_whole 26 = .ok (.lreturn, 1) := by decide +kernel
theorem dX7_whole_27 : decode cX7_whole 27 = .ok (.aload_n 0, 1) := by decide +kernel
theorem dX7_whole_28 : decode cX7_whole 28 = .ok (.aload_n 0, 1) := by decide +kernel
theorem dX7_whole_29 : decode cX7_whole 29 = .ok (.getfield 29, 3) := by decide +kernel
theorem dX7_whole_32 : decode cX7_whole 32 = .ok (.iload_n 1, 1) := by decide +kernel
theorem dX7_whole_33 : decode cX7_whole 33 = .ok (.iaload, 1) := by decide +kernel
theorem dX7_whole_34 : decode cX7_whole 34 = .ok (.iconst 0, 1) := by decide +kernel
theorem dX7_whole_35 : decode cX7_whole 35 = .ok (.aload_n 0, 1) := by decide +kernel
theorem dX7_whole_36 : decode cX7_whole 36 = .ok (.getfield 32, 3) := by decide +kernel
theorem dX7_whole_39 : decode cX7_whole 39 = .ok (.iload_n 1, 1) := by decide +kernel
theorem dX7_whole_40 : decode cX7_whole 40 = .ok (.iaload, 1) := by decide +kernel
theorem dX7_whole_41 : decode cX7_whole 41 = .ok (.iconst 0, 1) := by decide +kernel
theorem dX7_whole_42 : decode cX7_whole 42 = .ok (.invokevirtual 255, 3) := by decide +kernel
theorem dX7_whole_45 : decode cX7_whole 45 = .ok (.aload_n 0, 1) := by decide +kernel
theorem dX7_whole_46 : decode cX7_whole 46 = .ok (.getfield 239, 3) := by decide +kernel
theorem dX7_whole_49 : decode cX7_whole 49 = .ok (.aload_n 0, 1) := by decide +kernel
theorem dX7_whole_50 : decode cX7_whole 50 = .ok (.getfield 19, 3) := by decide +kernel
theorem dX7_whole_53 : decode cX7_whole 53 = .ok (.aload_n 0, 1) := by decide +kernel
theorem dX7_whole_54 : decode cX7_whole 54 = .ok (.getfield 23, 3) := by decide +kernel
theorem dX7_whole_57 : decode cX7_whole 57 = .ok (.imul, 1) := by decide +kernel
theorem dX7_whole_58 : decode cX7_whole 58 = .ok (.if_icmp .ge 7, 3) := by decide +kernel
theorem dX7_whole_61 : decode cX7_whole 61 = .ok (.lconst 0, 1) := by decide +kernel
theorem dX7_whole_62 : decode cX7_whole 62 = .ok (.goto 25, 3) := by decide +kernel
theorem dX7_whole_65 : decode cX7_whole 65 = .ok (.aload_n 0, 1) := by decide +kernel
theorem dX7_whole_66 : decode cX7_whole 66 = .ok (.getfield 226, 3) := by decide +kernel
theorem dX7_whole_69 : decode cX7_whole 69 = .ok (.iconst 2, 1) := by decide +kernel
theorem dX7_whole_70 : decode cX7_whole 70 = .ok (.irem, 1) := by decide +kernel
theorem dX7_whole_71 : decode cX7_whole 71 = .ok (.iconst 1, 1) := by decide +kernel
theorem dX7_whole_72 : decode cX7_whole 72 = .ok (.if_icmp .ne 11, 3) := by decide +kernel
theorem dX7_whole_75 : decode cX7_whole 75 = .ok (.aload_n 0, 1) := by decide +kernel
theorem dX7_whole_76 : decode cX7_whole 76 = .ok (.getfield 235, 3) := by decide +kernel
theorem dX7_whole_79 : decode cX7_whole 79 = .ok (.lneg, 1) := by decide +kernel
theorem dX7_whole_80 : decode cX7_whole 80 = .ok (.goto 7, 3) := by decide +kernel
theorem dX7_whole_83 : decode cX7_whole 83 = .ok (.aload_n 0, 1) := by decide +kernel
theorem dX7_whole_84 : decode cX7_whole 84 = .ok (.getfield 235, 3) := by decide +kernel
theorem dX7_whole_87 : decode cX7_whole 87 = .ok (.lreturn, 1) := by decide +kernel
theorem dX7_splits_0 : decode cX7_splits 0 = .ok (.iload_n 1, 1) := by decide +kernel
theorem dX7_splits_1 : decode cX7_splits 1 = .ok (.istore_n 2, 1) := by decide +kernel
theorem dX7_splits_2 : decode cX7_splits 2 = .ok (.iload_n 2, 1) := by decide +kernel
theorem dX7_splits_3 : decode cX7_splits 3 = .ok (.aload_n 0, 1) := by decide +kernel
theorem dX7_splits_4 : decode cX7_splits 4 = .ok (.getfield 19, 3) := by decide +kernel
theorem dX7_splits_7 : decode cX7_splits 7 = .ok (.if_icmp .ge 34, 3) := by decide +kernel
theorem dX7_splits_10 : decode cX7_splits 10 = .ok (.iconst 0, 1) := by decide +kernel
theorem dX7_splits_11 : decode cX7_splits 11 = .ok (.istore_n 3, 1) := by decide +kernel
theorem dX7_splits_12 : decode cX7_splits 12 = .ok (.iload_n 3, 1) := by decide +kernel
theorem dX7_splits_13 : decode cX7_splits 13 = .ok (.iload_n 1, 1) := by decide +kernel
theorem dX7_splits_14 : decode cX7_splits 14 = .ok (.if_icmp .ge 21, 3) := by decide +kernel
theorem dX7_splits_17 : decode cX7_splits 17 = .ok (.aload_n 0, 1) := by decide +kernel
theorem dX7_splits_18 : decode cX7_splits 18 = .ok (.iconst 0, 1) := by decide +kernel
theorem dX7_splits_19 : decode cX7_splits 19 = .ok (.iload_n 2, 1) := by decide +kernel
theorem dX7_splits_20 : decode cX7_splits 20 = .ok (.iload_n 3, 1) := by decide +kernel
theorem dX7_splits_21 : decode cX7_splits 21 = .ok (.invokevirtual 128, 3) := by decide +kernel
theorem dX7_splits_24 : decode cX7_splits 24 = .ok (.ifCond .eq 5, 3) := by decide +kernel
theorem dX7_splits_27 : decode cX7_splits 27 = .ok (.iconst 0, 1) := by decide +kernel
theorem dX7_splits_28 : decode cX7_splits 28 = .ok (.ireturn, 1) := by decide +kernel
theorem dX7_splits_29 : decode cX7_splits 29 = .ok (.iinc 3 1, 3) := by decide +kernel
theorem dX7_splits_32 : decode cX7_splits 32 = .ok (.goto (-20), 3) := by decide +kernel
theorem dX7_splits_35 : decode cX7_splits 35 = .ok (.iinc 2 1, 3) := by decide +kernel
theorem dX7_splits_38 : decode cX7_splits 38 = .ok (.goto (-36), 3) := by decide +kernel
theorem dX7_splits_41 : decode cX7_splits 41 = .ok (.iconst 1, 1) := by decide +kernel
theorem dX7_splits_42 : decode cX7_splits 42 = .ok (.ireturn, 1) := by decide +kernel
theorem dX7_lower_0 : decode cX7_lower 0 = .ok (.aload_n 0, 1) := by decide +kernel
theorem dX7_lower_1 : decode cX7_lower 1 = .ok (.iload_n 1, 1) := by decide +kernel
theorem dX7_lower_2 : decode cX7_lower 2 = .ok (.invokevirtual 203, 3) := by decide +kernel
theorem dX7_lower_5 : decode cX7_lower 5 = .ok (.ifCond .eq 15, 3) := by decide +kernel
theorem dX7_lower_8 : decode cX7_lower 8 = .ok (.iload_n 2, 1) := by decide +kernel
theorem dX7_lower_9 : decode cX7_lower 9 = .ok (.i2l, 1) := by decide +kernel
theorem dX7_lower_10 : decode cX7_lower 10 = .ok (.lconst 1, 1) := by decide +kernel
theorem dX7_lower_11 : decode cX7_lower 11 = .ok (.ldc2_w 97, 3) := by decide +kernel
theorem dX7_lower_14 : decode cX7_lower 14 = .ok (.invokestatic 99, 3) := by decide +kernel
theorem dX7_lower_17 : decode cX7_lower 17 = .ok (.ifCond .ne 5, 3) := by decide +kernel
theorem dX7_lower_20 : decode cX7_lower 20 = .ok (.iconst (-1), 1) := by decide +kernel
theorem dX7_lower_21 : decode cX7_lower 21 = .ok (.ireturn, 1) := by decide +kernel
theorem dX7_lower_22 : decode cX7_lower 22 = .ok (.iload_n 2, 1) := by decide +kernel
theorem dX7_lower_23 : decode cX7_lower 23 = .ok (.aload_n 0, 1) := by decide +kernel
theorem dX7_lower_24 : decode cX7_lower 24 = .ok (.getfield 19, 3) := by decide +kernel
theorem dX7_lower_27 : decode cX7_lower 27 = .ok (.if_icmp .ge 24, 3) := by decide +kernel
theorem dX7_lower_30 : decode cX7_lower 30 = .ok (.aload_n 0, 1) := by decide +kernel
theorem dX7_lower_31 : decode cX7_lower 31 = .ok (.iload_n 2, 1) := by decide +kernel
theorem dX7_lower_32 : decode cX7_lower 32 = .ok (.invokevirtual 300, 3) := by decide +kernel
theorem dX7_lower_35 : decode cX7_lower 35 = .ok (.ifCond .eq 16, 3) := by decide +kernel
theorem dX7_lower_38 : decode cX7_lower 38 = .ok (.aload_n 0, 1) := by decide +kernel
theorem dX7_lower_39 : decode cX7_lower 39 = .ok (.aload_n 0, 1) := by decide +kernel
theorem dX7_lower_40 : decode cX7_lower 40 = .ok (.getfield 29, 3) := by decide +kernel
theorem dX7_lower_43 : decode cX7_lower 43 = .ok (.iload_n 1, 1) := by decide +kernel
theorem dX7_lower_44 : decode cX7_lower 44 = .ok (.iaload, 1) := by decide +kernel
theorem dX7_lower_45 : decode cX7_lower 45 = .ok (.invokevirtual 209, 3) := by decide +kernel
theorem dX7_lower_48 : decode cX7_lower 48 = .ok (.ifCond .ne 6, 3) := by decide +kernel
theorem dX7_lower_51 : decode cX7_lower 51 = .ok (.bipush (-4), 2) := by decide +kernel
theorem dX7_lower_53 : decode cX7_lower 53 = .ok (.ireturn, 1) := by decide +kernel
theorem dX7_lower_54 : decode cX7_lower 54 = .ok (.aload_n 0, 1) := by decide +kernel
theorem dX7_lower_55 : decode cX7_lower 55 = .ok (.aload_n 0, 1) := by decide +kernel
theorem dX7_lower_56 : decode cX7_lower 56 = .ok (.getfield 29, 3) := by decide +kernel
theorem dX7_lower_59 : decode cX7_lower 59 = .ok (.iload_n 1, 1) := by decide +kernel
theorem dX7_lower_60 : decode cX7_lower 60 = .ok (.iaload, 1) := by decide +kernel
theorem dX7_lower_61 : decode cX7_lower 61 = .ok (.iconst 0, 1) := by decide +kernel
theorem dX7_lower_62 : decode cX7_lower 62 = .ok (.aload_n 0, 1) := by decide +kernel
theorem dX7_lower_63 : decode cX7_lower 63 = .ok (.getfield 32, 3) := by decide +kernel
theorem dX7_lower_66 : decode cX7_lower 66 = .ok (.iload_n 1, 1) := by decide +kernel
theorem dX7_lower_67 : decode cX7_lower 67 = .ok (.iaload, 1) := by decide +kernel
theorem dX7_lower_68 : decode cX7_lower 68 = .ok (.iload_n 2, 1) := by decide +kernel
theorem dX7_lower_69 : decode cX7_lower 69 = .ok (.invokevirtual 255, 3) := by decide +kernel
theorem dX7_lower_72 : decode cX7_lower 72 = .ok (.aload_n 0, 1) := by decide +kernel
theorem dX7_lower_73 : decode cX7_lower 73 = .ok (.invokevirtual 270, 3) := by decide +kernel
theorem dX7_lower_76 : decode cX7_lower 76 = .ok (.ifCond .eq 7, 3) := by decide +kernel
theorem dX7_lower_79 : decode cX7_lower 79 = .ok (.iconst 1, 1) := by decide +kernel
theorem dX7_lower_80 : decode cX7_lower 80 = .ok (.goto 4, 3) := by decide +kernel
theorem dX7_lower_83 : decode cX7_lower 83 = .ok (.iconst 0, 1) := by decide +kernel
theorem dX7_lower_84 : decode cX7_lower 84 = .ok (.ireturn, 1) := by decide +kernel
theorem dX7_swapped_0 : decode cX7_swapped 0 = .ok (.aload_n 0, 1) := by decide +kernel
theorem dX7_swapped_1 : decode cX7_swapped 1 = .ok (.getfield 19, 3) := by decide +kernel
theorem dX7_swapped_4 : decode cX7_swapped 4 = .ok (.aload_n 0, 1) := by decide +kernel
theorem dX7_swapped_5 : decode cX7_swapped 5 = .ok (.getfield 23, 3) := by decide +kernel
theorem dX7_swapped_8 : decode cX7_swapped 8 = .ok (.if_icmp .eq 8, 3) := by decide +kernel
theorem dX7_swapped_11 : decode cX7_swapped 11 = .ok (.bipush (-4), 2) := by decide +kernel
theorem dX7_swapped_13 : decode cX7_swapped 13 = .ok (.goto 18, 3) := by decide +kernel
theorem dX7_swapped_16 : decode cX7_swapped 16 = .ok (.aload_n 0, 1) := by decide +kernel
theorem dX7_swapped_17 : decode cX7_swapped 17 = .ok (.iconst 2, 1) := by decide +kernel
theorem dX7_swapped_18 : decode cX7_swapped 18 = .ok (.invokevirtual 143, 3) := by decide +kernel
theorem dX7_swapped_21 : decode cX7_swapped 21 = .ok (.lconst 0, 1) := by decide +kernel
theorem dX7_swapped_22 : decode cX7_swapped 22 = .ok (.lcmp, 1) := by decide +kernel
theorem dX7_swapped_23 : decode cX7_swapped 23 = .ok (.ifCond .ne 7, 3) := by decide +kernel
theorem dX7_swapped_26 : decode cX7_swapped 26 = .ok (.iconst 1, 1) := by decide +kernel
theorem dX7_swapped_27 : decode cX7_swapped 27 = .ok (.goto 4, 3) := by decide +kernel
theorem dX7_swapped_30 : decode cX7_swapped 30 = .ok (.iconst 0, 1) := by decide +kernel
theorem dX7_swapped_31 : decode cX7_swapped 31 = .ok (.ireturn, 1) := by decide +kernel
theorem dX7_stable_0 : decode cX7_stable 0 = .ok (.aload_n 0, 1) := by decide +kernel
theorem dX7_stable_1 : decode cX7_stable 1 = .ok (.iconst 0, 1) := by decide +kernel
theorem dX7_stable_2 : decode cX7_stable 2 = .ok (.invokevirtual 143, 3) := by decide +kernel
theorem dX7_stable_5 : decode cX7_stable 5 = .ok (.lneg, 1) := by decide +kernel
theorem dX7_stable_6 : decode cX7_stable 6 = .ok (.lstore_n 1, 1) := by decide +kernel
theorem dX7_stable_7 : decode cX7_stable 7 = .ok (.aload_n 0, 1) := by decide +kernel
theorem dX7_stable_8 : decode cX7_stable 8 = .ok (.iconst 0, 1) := by decide +kernel
theorem dX7_stable_9 : decode cX7_stable 9 = .ok (.invokevirtual 146, 3) := by decide +kernel
theorem dX7_stable_12 : decode cX7_stable 12 = .ok (.lstore_n 3, 1) := by decide +kernel
theorem dX7_stable_13 : decode cX7_stable 13 = .ok (.aload_n 0, 1) := by decide +kernel
theorem dX7_stable_14 : decode cX7_stable 14 = .ok (.getfield 19, 3) := by decide +kernel
theorem dX7_stable_17 : decode cX7_stable 17 = .ok (.iconst 2, 1) := by decide +kernel
theorem dX7_stable_18 : decode cX7_stable 18 = .ok (.irem, 1) := by decide +kernel
theorem dX7_stable_19 : decode cX7_stable 19 = .ok (.ifCond .ne 11, 3) := by decide +kernel
theorem dX7_stable_22 : decode cX7_stable 22 = .ok (.aload_n 0, 1) := by decide +kernel
theorem dX7_stable_23 : decode cX7_stable 23 = .ok (.iconst 0, 1) := by decide +kernel
theorem dX7_stable_24 : decode cX7_stable 24 = .ok (.invokevirtual 136, 3) := by decide +kernel
theorem dX7_stable_27 : decode cX7_stable 27 = .ok (.goto 9, 3) := by decide +kernel
theorem dX7_stable_30 : decode cX7_stable 30 = .ok (.aload_n 0, 1) := by decide +kernel
theorem dX7_stable_31 : decode cX7_stable 31 = .ok (.iconst 0, 1) := by decide +kernel
theorem dX7_stable_32 : decode cX7_stable 32 = .ok (.invokevirtual 136, 3) := by decide +kernel
theorem dX7_stable_35 : decode cX7_stable 35 = .ok (.lneg, 1) := by decide +kernel
theorem dX7_stable_36 : decode cX7_stable 36 = .ok (.lstore 5, 2) := by decide +kernel
theorem dX7_stable_38 : decode cX7_stable 38 = .ok (.aload_n 0, 1) := by decide +kernel
theorem dX7_stable_39 : decode cX7_stable 39 = .ok (.getfield 19, 3) := by decide +kernel
theorem dX7_stable_42 : decode cX7_stable 42 = .ok (.iconst 1, 1) := by decide +kernel
theorem dX7_stable_43 : decode cX7_stable 43 = .ok (.if_icmp .ne 17, 3) := by decide +kernel
theorem dX7_stable_46 : decode cX7_stable 46 = .ok (.lload_n 1, 1) := by decide +kernel
theorem dX7_stable_47 : decode cX7_stable 47 = .ok (.lconst 0, 1) := by decide +kernel
theorem dX7_stable_48 : decode cX7_stable 48 = .ok (.lcmp, 1) := by decide +kernel
theorem dX7_stable_49 : decode cX7_stable 49 = .ok (.ifCond .le 7, 3) := by decide +kernel
theorem dX7_stable_52 : decode cX7_stable 52 = .ok (.iconst 1, 1) := by decide +kernel
theorem dX7_stable_53 : decode cX7_stable 53 = .ok (.goto 62, 3) := by decide +kernel
theorem dX7_stable_56 : decode cX7_stable 56 = .ok (.iconst 0, 1) := by decide +kernel
theorem dX7_stable_57 : decode cX7_stable 57 = .ok (.goto 58, 3) := by decide +kernel
theorem dX7_stable_60 : decode cX7_stable 60 = .ok (.aload_n 0, 1) := by decide +kernel
theorem dX7_stable_61 : decode cX7_stable 61 = .ok (.getfield 19, 3) := by decide +kernel
theorem dX7_stable_64 : decode cX7_stable 64 = .ok (.iconst 2, 1) := by decide +kernel
theorem dX7_stable_65 : decode cX7_stable 65 = .ok (.if_icmp .ne 23, 3) := by decide +kernel
theorem dX7_stable_68 : decode cX7_stable 68 = .ok (.lload_n 1, 1) := by decide +kernel
theorem dX7_stable_69 : decode cX7_stable 69 = .ok (.lconst 0, 1) := by decide +kernel
theorem dX7_stable_70 : decode cX7_stable 70 = .ok (.lcmp, 1) := by decide +kernel
theorem dX7_stable_71 : decode cX7_stable 71 = .ok (.ifCond .le 13, 3) := by decide +kernel
theorem dX7_stable_74 : decode cX7_stable 74 = .ok (.lload_n 3, 1) := by decide +kernel
theorem dX7_stable_75 : decode cX7_stable 75 = .ok (.lconst 0, 1) := by decide +kernel
theorem dX7_stable_76 : decode cX7_stable 76 = .ok (.lcmp, 1) := by decide +kernel
theorem dX7_stable_77 : decode cX7_stable 77 = .ok (.ifCond .le 7, 3) := by decide +kernel
theorem dX7_stable_80 : decode cX7_stable 80 = .ok (.iconst 1, 1) := by decide +kernel
theorem dX7_stable_81 : decode cX7_stable 81 = .ok (.goto 34, 3) := by decide +kernel
theorem dX7_stable_84 : decode cX7_stable 84 = .ok (.iconst 0, 1) := by decide +kernel
theorem dX7_stable_85 : decode cX7_stable 85 = .ok (.goto 30, 3) := by decide +kernel
theorem dX7_stable_88 : decode cX7_stable 88 = .ok (.lload_n 1, 1) := by decide +kernel
theorem dX7_stable_89 : decode cX7_stable 89 = .ok (.lconst 0, 1) := by decide +kernel
theorem dX7_stable_90 : decode cX7_stable 90 = .ok (.lcmp, 1) := by decide +kernel
theorem dX7_stable_91 : decode cX7_stable 91 = .ok (.ifCond .le 23, 3) := by decide +kernel
theorem dX7_stable_94 : decode cX7_stable 94 = .ok (.lload 5, 2) := by decide +kernel
theorem dX7_stable_96 : decode cX7_stable 96 = .ok (.lconst 0, 1) := by decide +kernel
theorem dX7_stable_97 : decode cX7_stable 97 = .ok (.lcmp, 1) := by decide +kernel
theorem dX7_stable_98 : decode cX7_stable 98 = .ok (.ifCond .le 16, 3) := by decide +kernel
theorem dX7_stable_101 : decode cX7_stable 101 = .ok (.lload_n 1, 1) := by decide +kernel
theorem dX7_stable_102 : decode cX7_stable 102 = .ok (.lload_n 3, 1) := by decide +kernel
theorem dX7_stable_103 : decode cX7_stable 103 = .ok (.lmul, 1) := by decide +kernel
theorem dX7_stable_104 : decode cX7_stable 104 = .ok (.lload 5, 2) := by decide +kernel
theorem dX7_stable_106 : decode cX7_stable 106 = .ok (.lcmp, 1) := by decide +kernel
theorem dX7_stable_107 : decode cX7_stable 107 = .ok (.ifCond .le 7, 3) := by decide +kernel
theorem dX7_stable_110 : decode cX7_stable 110 = .ok (.iconst 1, 1) := by decide +kernel
theorem dX7_stable_111 : decode cX7_stable 111 = .ok (.goto 4, 3) := by decide +kernel
theorem dX7_stable_114 : decode cX7_stable 114 = .ok (.iconst 0, 1) := by decide +kernel
theorem dX7_stable_115 : decode cX7_stable 115 = .ok (.istore 7, 2) := by decide +kernel
theorem dX7_stable_117 : decode cX7_stable 117 = .ok (.iload 7, 2) := by decide +kernel
theorem dX7_stable_119 : decode cX7_stable 119 = .ok (.ifCond .eq 7, 3) := by decide +kernel
theorem dX7_stable_122 : decode cX7_stable 122 = .ok (.iconst 1, 1) := by decide +kernel
theorem dX7_stable_123 : decode cX7_stable 123 = .ok (.goto 4, 3) := by decide +kernel
theorem dX7_stable_126 : decode cX7_stable 126 = .ok (.iconst 0, 1) := by decide +kernel
theorem dX7_stable_127 : decode cX7_stable 127 = .ok (.ireturn, 1) := by decide +kernel
theorem dX7_leastScale_0 : decode cX7_leastScale 0 = .ok (.lconst 1, 1) := by decide +kernel
theorem dX7_leastScale_1 : decode cX7_leastScale 1 = .ok (.lstore_n 2, 1) := by decide +kernel
theorem dX7_leastScale_2 : decode cX7_leastScale 2 = .ok (.iconst 0, 1) := by decide +kernel
theorem dX7_leastScale_3 : decode cX7_leastScale 3 = .ok (.istore 4, 2) := by decide +kernel
theorem dX7_leastScale_5 : decode cX7_leastScale 5 = .ok (.iload 4, 2) := by decide +kernel
theorem dX7_leastScale_7 : decode cX7_leastScale 7 = .ok (.aload_n 0, 1) := by decide +kernel
theorem dX7_leastScale_8 : decode cX7_leastScale 8 = .ok (.getfield 19, 3) := by decide +kernel
theorem dX7_leastScale_11 : decode cX7_leastScale 11 = .ok (.aload_n 0, 1) := by decide +kernel
theorem dX7_leastScale_12 : decode cX7_leastScale 12 = .ok (.getfield 23, 3) := by decide +kernel
theorem dX7_leastScale_15 : decode cX7_leastScale 15 = .ok (.imul, 1) := by decide +kernel
theorem dX7_leastScale_16 : decode cX7_leastScale 16 = .ok (.if_icmp .ge 51, 3) := by decide +kernel
theorem dX7_leastScale_19 : decode cX7_leastScale 19 = .ok (.aload_n 0, 1) := by decide +kernel
theorem dX7_leastScale_20 : decode cX7_leastScale 20 = .ok (.iload_n 1, 1) := by decide +kernel
theorem dX7_leastScale_21 : decode cX7_leastScale 21 = .ok (.iload 4, 2) := by decide +kernel
theorem dX7_leastScale_23 : decode cX7_leastScale 23 = .ok (.aload_n 0, 1) := by decide +kernel
theorem dX7_leastScale_24 : decode cX7_leastScale 24 = .ok (.getfield 23, 3) := by decide +kernel
theorem dX7_leastScale_27 : decode cX7_leastScale 27 = .ok (.idiv, 1) := by decide +kernel
theorem dX7_leastScale_28 : decode cX7_leastScale 28 = .ok (.iload 4, 2) := by decide +kernel
theorem dX7_leastScale_30 : decode cX7_leastScale 30 = .ok (.aload_n 0, 1) := by decide +kernel
theorem dX7_leastScale_31 : decode cX7_leastScale 31 = .ok (.getfield 23, 3) := by decide +kernel
theorem dX7_leastScale_34 : decode cX7_leastScale 34 = .ok (.irem, 1) := by decide +kernel
theorem dX7_leastScale_35 : decode cX7_leastScale 35 = .ok (.iconst (-1), 1) := by decide +kernel
theorem dX7_leastScale_36 : decode cX7_leastScale 36 = .ok (.invokevirtual 278, 3) := by decide +kernel
theorem dX7_leastScale_39 : decode cX7_leastScale 39 = .ok (.aload_n 0, 1) := by decide +kernel
theorem dX7_leastScale_40 : decode cX7_leastScale 40 = .ok (.getfield 235, 3) := by decide +kernel
theorem dX7_leastScale_43 : decode cX7_leastScale 43 = .ok (.iconst 1, 1) := by decide +kernel
theorem dX7_leastScale_44 : decode cX7_leastScale 44 = .ok (.invokestatic 282, 3) := by decide +kernel
theorem dX7_leastScale_47 : decode cX7_leastScale 47 = .ok (.lstore 5, 2) := by decide +kernel
theorem dX7_leastScale_49 : decode cX7_leastScale 49 = .ok (.lload_n 2, 1) := by decide +kernel
theorem dX7_leastScale_50 : decode cX7_leastScale 50 = .ok (.lload_n 2, 1) := by decide +kernel
theorem dX7_leastScale_51 : decode cX7_leastScale 51 = .ok (.lload 5, 2) := by decide +kernel
theorem dX7_leastScale_53 : decode cX7_leastScale 53 = .ok (.invokestatic 93, 3) := by decide +kernel
theorem dX7_leastScale_56 : decode cX7_leastScale 56 = .ok (.ldiv, 1) := by decide +kernel
theorem dX7_leastScale_57 : decode cX7_leastScale 57 = .ok (.lload 5, 2) := by decide +kernel
theorem dX7_leastScale_59 : decode cX7_leastScale 59 = .ok (.lmul, 1) := by decide +kernel
theorem dX7_leastScale_60 : decode cX7_leastScale 60 = .ok (.lstore_n 2, 1) := by decide +kernel
theorem dX7_leastScale_61 : decode cX7_leastScale 61 = .ok (.iinc 4 1, 3) := by decide +kernel
theorem dX7_leastScale_64 : decode cX7_leastScale 64 = .ok (.goto (-59), 3) := by decide +kernel
theorem dX7_leastScale_67 : decode cX7_leastScale 67 = .ok (.lload_n 2, 1) := by decide +kernel
theorem dX7_leastScale_68 : decode cX7_leastScale 68 = .ok (.lreturn, 1) := by decide +kernel
theorem dX7_lay_0 : decode cX7_lay 0 = .ok (.aload_n 0, 1) := by decide +kernel
theorem dX7_lay_1 : decode cX7_lay 1 = .ok (.iload_n 1, 1) := by decide +kernel
theorem dX7_lay_2 : decode cX7_lay 2 = .ok (.invokevirtual 203, 3) := by decide +kernel
theorem dX7_lay_5 : decode cX7_lay 5 = .ok (.ifCond .eq 10, 3) := by decide +kernel
theorem dX7_lay_8 : decode cX7_lay 8 = .ok (.iload_n 2, 1) := by decide +kernel
theorem dX7_lay_9 : decode cX7_lay 9 = .ok (.invokestatic 303, 3) := by decide +kernel
theorem dX7_lay_12 : decode cX7_lay 12 = .ok (.ifCond .ne 5, 3) := by decide +kernel
theorem dX7_lay_15 : decode cX7_lay 15 = .ok (.iconst (-1), 1) := by decide +kernel
theorem dX7_lay_16 : decode cX7_lay 16 = .ok (.ireturn, 1) := by decide +kernel
theorem dX7_lay_17 : decode cX7_lay 17 = .ok (.aload_n 0, 1) := by decide +kernel
theorem dX7_lay_18 : decode cX7_lay 18 = .ok (.getfield 29, 3) := by decide +kernel
theorem dX7_lay_21 : decode cX7_lay 21 = .ok (.iload_n 1, 1) := by decide +kernel
theorem dX7_lay_22 : decode cX7_lay 22 = .ok (.iaload, 1) := by decide +kernel
theorem dX7_lay_23 : decode cX7_lay 23 = .ok (.istore_n 3, 1) := by decide +kernel
theorem dX7_lay_24 : decode cX7_lay 24 = .ok (.aload_n 0, 1) := by decide +kernel
theorem dX7_lay_25 : decode cX7_lay 25 = .ok (.iload_n 3, 1) := by decide +kernel
theorem dX7_lay_26 : decode cX7_lay 26 = .ok (.invokevirtual 259, 3) := by decide +kernel
theorem dX7_lay_29 : decode cX7_lay 29 = .ok (.ifCond .ne 6, 3) := by decide +kernel
theorem dX7_lay_32 : decode cX7_lay 32 = .ok (.bipush (-4), 2) := by decide +kernel
theorem dX7_lay_34 : decode cX7_lay 34 = .ok (.ireturn, 1) := by decide +kernel
theorem dX7_lay_35 : decode cX7_lay 35 = .ok (.aload_n 0, 1) := by decide +kernel
theorem dX7_lay_36 : decode cX7_lay 36 = .ok (.iload_n 1, 1) := by decide +kernel
theorem dX7_lay_37 : decode cX7_lay 37 = .ok (.invokevirtual 262, 3) := by decide +kernel
theorem dX7_lay_40 : decode cX7_lay 40 = .ok (.aload_n 0, 1) := by decide +kernel
theorem dX7_lay_41 : decode cX7_lay 41 = .ok (.invokevirtual 270, 3) := by decide +kernel
theorem dX7_lay_44 : decode cX7_lay 44 = .ok (.ifCond .ne 6, 3) := by decide +kernel
theorem dX7_lay_47 : decode cX7_lay 47 = .ok (.bipush (-3), 2) := by decide +kernel
theorem dX7_lay_49 : decode cX7_lay 49 = .ok (.ireturn, 1) := by decide +kernel
theorem dX7_lay_50 : decode cX7_lay 50 = .ok (.aload_n 0, 1) := by decide +kernel
theorem dX7_lay_51 : decode cX7_lay 51 = .ok (.iload_n 3, 1) := by decide +kernel
theorem dX7_lay_52 : decode cX7_lay 52 = .ok (.invokevirtual 306, 3) := by decide +kernel
theorem dX7_lay_55 : decode cX7_lay 55 = .ok (.lstore 4, 2) := by decide +kernel
theorem dX7_lay_57 : decode cX7_lay 57 = .ok (.lload 4, 2) := by decide +kernel
theorem dX7_lay_59 : decode cX7_lay 59 = .ok (.lload 4, 2) := by decide +kernel
theorem dX7_lay_61 : decode cX7_lay 61 = .ok (.l2i, 1) := by decide +kernel
theorem dX7_lay_62 : decode cX7_lay 62 = .ok (.i2l, 1) := by decide +kernel
theorem dX7_lay_63 : decode cX7_lay 63 = .ok (.lcmp, 1) := by decide +kernel
theorem dX7_lay_64 : decode cX7_lay 64 = .ok (.ifCond .ne 7, 3) := by decide +kernel
theorem dX7_lay_67 : decode cX7_lay 67 = .ok (.iconst 1, 1) := by decide +kernel
theorem dX7_lay_68 : decode cX7_lay 68 = .ok (.goto 4, 3) := by decide +kernel
theorem dX7_lay_71 : decode cX7_lay 71 = .ok (.iconst 0, 1) := by decide +kernel
theorem dX7_lay_72 : decode cX7_lay 72 = .ok (.istore 6, 2) := by decide +kernel
theorem dX7_lay_74 : decode cX7_lay 74 = .ok (.iconst 0, 1) := by decide +kernel
theorem dX7_lay_75 : decode cX7_lay 75 = .ok (.istore 7, 2) := by decide +kernel
theorem dX7_lay_77 : decode cX7_lay 77 = .ok (.iload 7, 2) := by decide +kernel
theorem dX7_lay_79 : decode cX7_lay 79 = .ok (.aload_n 0, 1) := by decide +kernel
theorem dX7_lay_80 : decode cX7_lay 80 = .ok (.getfield 19, 3) := by decide +kernel
theorem dX7_lay_83 : decode cX7_lay 83 = .ok (.aload_n 0, 1) := by decide +kernel
theorem dX7_lay_84 : decode cX7_lay 84 = .ok (.getfield 23, 3) := by decide +kernel
theorem dX7_lay_87 : decode cX7_lay 87 = .ok (.imul, 1) := by decide +kernel
theorem dX7_lay_88 : decode cX7_lay 88 = .ok (.if_icmp .ge 93, 3) := by decide +kernel
theorem dX7_lay_91 : decode cX7_lay 91 = .ok (.aload_n 0, 1) := by decide +kernel
theorem dX7_lay_92 : decode cX7_lay 92 = .ok (.iload_n 3, 1) := by decide +kernel
theorem dX7_lay_93 : decode cX7_lay 93 = .ok (.iload 7, 2) := by decide +kernel
theorem dX7_lay_95 : decode cX7_lay 95 = .ok (.aload_n 0, 1) := by decide +kernel
theorem dX7_lay_96 : decode cX7_lay 96 = .ok (.getfield 23, 3) := by decide +kernel
theorem dX7_lay_99 : decode cX7_lay 99 = .ok (.idiv, 1) := by decide +kernel
theorem dX7_lay_100 : decode cX7_lay 100 = .ok (.iload 7, 2) := by decide +kernel
theorem dX7_lay_102 : decode cX7_lay 102 = .ok (.aload_n 0, 1) := by decide +kernel
theorem dX7_lay_103 : decode cX7_lay 103 = .ok (.getfield 23, 3) := by decide +kernel
theorem dX7_lay_106 : decode cX7_lay 106 = .ok (.irem, 1) := by decide +kernel
theorem dX7_lay_107 : decode cX7_lay 107 = .ok (.iconst (-1), 1) := by decide +kernel
theorem dX7_lay_108 : decode cX7_lay 108 = .ok (.invokevirtual 278, 3) := by decide +kernel
theorem dX7_lay_111 : decode cX7_lay 111 = .ok (.aload_n 0, 1) := by decide +kernel
theorem dX7_lay_112 : decode cX7_lay 112 = .ok (.getfield 235, 3) := by decide +kernel
theorem dX7_lay_115 : decode cX7_lay 115 = .ok (.iconst 0, 1) := by decide +kernel
theorem dX7_lay_116 : decode cX7_lay 116 = .ok (.invokestatic 282, 3) := by decide +kernel
theorem dX7_lay_119 : decode cX7_lay 119 = .ok (.lload 4, 2) := by decide +kernel
theorem dX7_lay_121 : decode cX7_lay 121 = .ok (.aload_n 0, 1) := by decide +kernel
theorem dX7_lay_122 : decode cX7_lay 122 = .ok (.iload_n 3, 1) := by decide +kernel
theorem dX7_lay_123 : decode cX7_lay 123 = .ok (.iload 7, 2) := by decide +kernel
theorem dX7_lay_125 : decode cX7_lay 125 = .ok (.aload_n 0, 1) := by decide +kernel
theorem dX7_lay_126 : decode cX7_lay 126 = .ok (.getfield 23, 3) := by decide +kernel
theorem dX7_lay_129 : decode cX7_lay 129 = .ok (.idiv, 1) := by decide +kernel
theorem dX7_lay_130 : decode cX7_lay 130 = .ok (.iload 7, 2) := by decide +kernel
theorem dX7_lay_132 : decode cX7_lay 132 = .ok (.aload_n 0, 1) := by decide +kernel
theorem dX7_lay_133 : decode cX7_lay 133 = .ok (.getfield 23, 3) := by decide +kernel
theorem dX7_lay_136 : decode cX7_lay 136 = .ok (.irem, 1) := by decide +kernel
theorem dX7_lay_137 : decode cX7_lay 137 = .ok (.iconst (-1), 1) := by decide +kernel
theorem dX7_lay_138 : decode cX7_lay 138 = .ok (.invokevirtual 278, 3) := by decide +kernel
theorem dX7_lay_141 : decode cX7_lay 141 = .ok (.aload_n 0, 1) := by decide +kernel
theorem dX7_lay_142 : decode cX7_lay 142 = .ok (.getfield 235, 3) := by decide +kernel
theorem dX7_lay_145 : decode cX7_lay 145 = .ok (.iconst 1, 1) := by decide +kernel
theorem dX7_lay_146 : decode cX7_lay 146 = .ok (.invokestatic 282, 3) := by decide +kernel
theorem dX7_lay_149 : decode cX7_lay 149 = .ok (.ldiv, 1) := by decide +kernel
theorem dX7_lay_150 : decode cX7_lay 150 = .ok (.lmul, 1) := by decide +kernel
theorem dX7_lay_151 : decode cX7_lay 151 = .ok (.lstore 8, 2) := by decide +kernel
theorem dX7_lay_153 : decode cX7_lay 153 = .ok (.iload 6, 2) := by decide +kernel
theorem dX7_lay_155 : decode cX7_lay 155 = .ok (.ifCond .eq 17, 3) := by decide +kernel
theorem dX7_lay_158 : decode cX7_lay 158 = .ok (.lload 8, 2) := by decide +kernel
theorem dX7_lay_160 : decode cX7_lay 160 = .ok (.lload 8, 2) := by decide +kernel
theorem dX7_lay_162 : decode cX7_lay 162 = .ok (.l2i, 1) := by decide +kernel
theorem dX7_lay_163 : decode cX7_lay 163 = .ok (.i2l, 1) := by decide +kernel
theorem dX7_lay_164 : decode cX7_lay 164 = .ok (.lcmp, 1) := by decide +kernel
theorem dX7_lay_165 : decode cX7_lay 165 = .ok (.ifCond .ne 7, 3) := by decide +kernel
theorem dX7_lay_168 : decode cX7_lay 168 = .ok (.iconst 1, 1) := by decide +kernel
theorem dX7_lay_169 : decode cX7_lay 169 = .ok (.goto 4, 3) := by decide +kernel
theorem dX7_lay_172 : decode cX7_lay 172 = .ok (.iconst 0, 1) := by decide +kernel
theorem dX7_lay_173 : decode cX7_lay 173 = .ok (.istore 6, 2) := by decide +kernel
theorem dX7_lay_175 : decode cX7_lay 175 = .ok (.iinc 7 1, 3) := by decide +kernel
theorem dX7_lay_178 : decode cX7_lay 178 = .ok (.goto (-101), 3) := by decide +kernel
theorem dX7_lay_181 : decode cX7_lay 181 = .ok (.iload 6, 2) := by decide +kernel
theorem dX7_lay_183 : decode cX7_lay 183 = .ok (.ifCond .ne 6, 3) := by decide +kernel
theorem dX7_lay_186 : decode cX7_lay 186 = .ok (.bipush (-16), 2) := by decide +kernel
theorem dX7_lay_188 : decode cX7_lay 188 = .ok (.ireturn, 1) := by decide +kernel
theorem dX7_lay_189 : decode cX7_lay 189 = .ok (.aload_n 0, 1) := by decide +kernel
theorem dX7_lay_190 : decode cX7_lay 190 = .ok (.getfield 67, 3) := by decide +kernel
theorem dX7_lay_193 : decode cX7_lay 193 = .ok (.iload_n 2, 1) := by decide +kernel
theorem dX7_lay_194 : decode cX7_lay 194 = .ok (.iconst 2, 1) := by decide +kernel
theorem dX7_lay_195 : decode cX7_lay 195 = .ok (.iastore, 1) := by decide +kernel
theorem dX7_lay_196 : decode cX7_lay 196 = .ok (.aload_n 0, 1) := by decide +kernel
theorem dX7_lay_197 : decode cX7_lay 197 = .ok (.getfield 70, 3) := by decide +kernel
theorem dX7_lay_200 : decode cX7_lay 200 = .ok (.iload_n 2, 1) := by decide +kernel
theorem dX7_lay_201 : decode cX7_lay 201 = .ok (.aload_n 0, 1) := by decide +kernel
theorem dX7_lay_202 : decode cX7_lay 202 = .ok (.getfield 19, 3) := by decide +kernel
theorem dX7_lay_205 : decode cX7_lay 205 = .ok (.aload_n 0, 1) := by decide +kernel
theorem dX7_lay_206 : decode cX7_lay 206 = .ok (.getfield 23, 3) := by decide +kernel
theorem dX7_lay_209 : decode cX7_lay 209 = .ok (.imul, 1) := by decide +kernel
theorem dX7_lay_210 : decode cX7_lay 210 = .ok (.iastore, 1) := by decide +kernel
theorem dX7_lay_211 : decode cX7_lay 211 = .ok (.iconst 0, 1) := by decide +kernel
theorem dX7_lay_212 : decode cX7_lay 212 = .ok (.istore 7, 2) := by decide +kernel
theorem dX7_lay_214 : decode cX7_lay 214 = .ok (.iload 7, 2) := by decide +kernel
theorem dX7_lay_216 : decode cX7_lay 216 = .ok (.bipush 40, 2) := by decide +kernel
theorem dX7_lay_218 : decode cX7_lay 218 = .ok (.if_icmp .ge 99, 3) := by decide +kernel
theorem dX7_lay_221 : decode cX7_lay 221 = .ok (.aload_n 0, 1) := by decide +kernel
theorem dX7_lay_222 : decode cX7_lay 222 = .ok (.getfield 73, 3) := by decide +kernel
theorem dX7_lay_225 : decode cX7_lay 225 = .ok (.bipush 40, 2) := by decide +kernel
theorem dX7_lay_227 : decode cX7_lay 227 = .ok (.iload_n 2, 1) := by decide +kernel
theorem dX7_lay_228 : decode cX7_lay 228 = .ok (.imul, 1) := by decide +kernel
theorem dX7_lay_229 : decode cX7_lay 229 = .ok (.iload 7, 2) := by decide +kernel
theorem dX7_lay_231 : decode cX7_lay 231 = .ok (.iadd, 1) := by decide +kernel
theorem dX7_lay_232 : decode cX7_lay 232 = .ok (.iload 7, 2) := by decide +kernel
theorem dX7_lay_234 : decode cX7_lay 234 = .ok (.aload_n 0, 1) := by decide +kernel
theorem dX7_lay_235 : decode cX7_lay 235 = .ok (.getfield 19, 3) := by decide +kernel
theorem dX7_lay_238 : decode cX7_lay 238 = .ok (.aload_n 0, 1) := by decide +kernel
theorem dX7_lay_239 : decode cX7_lay 239 = .ok (.getfield 23, 3) := by decide +kernel
theorem dX7_lay_242 : decode cX7_lay 242 = .ok (.imul, 1) := by decide +kernel
theorem dX7_lay_243 : decode cX7_lay 243 = .ok (.if_icmp .ge 66, 3) := by decide +kernel
theorem dX7_lay_246 : decode cX7_lay 246 = .ok (.aload_n 0, 1) := by decide +kernel
theorem dX7_lay_247 : decode cX7_lay 247 = .ok (.iload_n 3, 1) := by decide +kernel
theorem dX7_lay_248 : decode cX7_lay 248 = .ok (.iload 7, 2) := by decide +kernel
theorem dX7_lay_250 : decode cX7_lay 250 = .ok (.aload_n 0, 1) := by decide +kernel
theorem dX7_lay_251 : decode cX7_lay 251 = .ok (.getfield 23, 3) := by decide +kernel
theorem dX7_lay_254 : decode cX7_lay 254 = .ok (.idiv, 1) := by decide +kernel
theorem dX7_lay_255 : decode cX7_lay 255 = .ok (.iload 7, 2) := by decide +kernel
theorem dX7_lay_257 : decode cX7_lay 257 = .ok (.aload_n 0, 1) := by decide +kernel
theorem dX7_lay_258 : decode cX7_lay 258 = .ok (.getfield 23, 3) := by decide +kernel
theorem dX7_lay_261 : decode cX7_lay 261 = .ok (.irem, 1) := by decide +kernel
theorem dX7_lay_262 : decode cX7_lay 262 = .ok (.iconst (-1), 1) := by decide +kernel
theorem dX7_lay_263 : decode cX7_lay 263 = .ok (.invokevirtual 278, 3) := by decide +kernel
theorem dX7_lay_266 : decode cX7_lay 266 = .ok (.aload_n 0, 1) := by decide +kernel
theorem dX7_lay_267 : decode cX7_lay 267 = .ok (.getfield 235, 3) := by decide +kernel
theorem dX7_lay_270 : decode cX7_lay 270 = .ok (.iconst 0, 1) := by decide +kernel
theorem dX7_lay_271 : decode cX7_lay 271 = .ok (.invokestatic 282, 3) := by decide +kernel
theorem dX7_lay_274 : decode cX7_lay 274 = .ok (.lload 4, 2) := by decide +kernel
theorem dX7_lay_276 : decode cX7_lay 276 = .ok (.aload_n 0, 1) := by decide +kernel
theorem dX7_lay_277 : decode cX7_lay 277 = .ok (.iload_n 3, 1) := by decide +kernel
theorem dX7_lay_278 : decode cX7_lay 278 = .ok (.iload 7, 2) := by decide +kernel
theorem dX7_lay_280 : decode cX7_lay 280 = .ok (.aload_n 0, 1) := by decide +kernel
theorem dX7_lay_281 : decode cX7_lay 281 = .ok (.getfield 23, 3) := by decide +kernel
theorem dX7_lay_284 : decode cX7_lay 284 = .ok (.idiv, 1) := by decide +kernel
theorem dX7_lay_285 : decode cX7_lay 285 = .ok (.iload 7, 2) := by decide +kernel
theorem dX7_lay_287 : decode cX7_lay 287 = .ok (.aload_n 0, 1) := by decide +kernel
theorem dX7_lay_288 : decode cX7_lay 288 = .ok (.getfield 23, 3) := by decide +kernel
theorem dX7_lay_291 : decode cX7_lay 291 = .ok (.irem, 1) := by decide +kernel
theorem dX7_lay_292 : decode cX7_lay 292 = .ok (.iconst (-1), 1) := by decide +kernel
theorem dX7_lay_293 : decode cX7_lay 293 = .ok (.invokevirtual 278, 3) := by decide +kernel
theorem dX7_lay_296 : decode cX7_lay 296 = .ok (.aload_n 0, 1) := by decide +kernel
theorem dX7_lay_297 : decode cX7_lay 297 = .ok (.getfield 235, 3) := by decide +kernel
theorem dX7_lay_300 : decode cX7_lay 300 = .ok (.iconst 1, 1) := by decide +kernel
theorem dX7_lay_301 : decode cX7_lay 301 = .ok (.invokestatic 282, 3) := by decide +kernel
theorem dX7_lay_304 : decode cX7_lay 304 = .ok (.ldiv, 1) := by decide +kernel
theorem dX7_lay_305 : decode cX7_lay 305 = .ok (.lmul, 1) := by decide +kernel
theorem dX7_lay_306 : decode cX7_lay 306 = .ok (.goto 4, 3) := by decide +kernel
theorem dX7_lay_309 : decode cX7_lay 309 = .ok (.lconst 0, 1) := by decide +kernel
theorem dX7_lay_310 : decode cX7_lay 310 = .ok (.lastore, 1) := by decide +kernel
theorem dX7_lay_311 : decode cX7_lay 311 = .ok (.iinc 7 1, 3) := by decide +kernel
theorem dX7_lay_314 : decode cX7_lay 314 = .ok (.goto (-100), 3) := by decide +kernel
theorem dX7_lay_317 : decode cX7_lay 317 = .ok (.lload 4, 2) := by decide +kernel
theorem dX7_lay_319 : decode cX7_lay 319 = .ok (.l2i, 1) := by decide +kernel
theorem dX7_lay_320 : decode cX7_lay 320 = .ok (.ireturn, 1) := by decide +kernel
theorem dX7_firstOff_0 : decode cX7_firstOff 0 = .ok (.iconst 0, 1) := by decide +kernel
theorem dX7_firstOff_1 : decode cX7_firstOff 1 = .ok (.istore 5, 2) := by decide +kernel
theorem dX7_firstOff_3 : decode cX7_firstOff 3 = .ok (.iload 5, 2) := by decide +kernel
theorem dX7_firstOff_5 : decode cX7_firstOff 5 = .ok (.aload_n 0, 1) := by decide +kernel
theorem dX7_firstOff_6 : decode cX7_firstOff 6 = .ok (.getfield 19, 3) := by decide +kernel
theorem dX7_firstOff_9 : decode cX7_firstOff 9 = .ok (.aload_n 0, 1) := by decide +kernel
theorem dX7_firstOff_10 : decode cX7_firstOff 10 = .ok (.getfield 23, 3) := by decide +kernel
theorem dX7_firstOff_13 : decode cX7_firstOff 13 = .ok (.imul, 1) := by decide +kernel
theorem dX7_firstOff_14 : decode cX7_firstOff 14 = .ok (.if_icmp .ge 121, 3) := by decide +kernel
theorem dX7_firstOff_17 : decode cX7_firstOff 17 = .ok (.lconst 0, 1) := by decide +kernel
theorem dX7_firstOff_18 : decode cX7_firstOff 18 = .ok (.lstore 6, 2) := by decide +kernel
theorem dX7_firstOff_20 : decode cX7_firstOff 20 = .ok (.iconst 0, 1) := by decide +kernel
theorem dX7_firstOff_21 : decode cX7_firstOff 21 = .ok (.istore 8, 2) := by decide +kernel
theorem dX7_firstOff_23 : decode cX7_firstOff 23 = .ok (.iload 8, 2) := by decide +kernel
theorem dX7_firstOff_25 : decode cX7_firstOff 25 = .ok (.aload_n 0, 1) := by decide +kernel
theorem dX7_firstOff_26 : decode cX7_firstOff 26 = .ok (.getfield 19, 3) := by decide +kernel
theorem dX7_firstOff_29 : decode cX7_firstOff 29 = .ok (.aload_n 0, 1) := by decide +kernel
theorem dX7_firstOff_30 : decode cX7_firstOff 30 = .ok (.getfield 23, 3) := by decide +kernel
theorem dX7_firstOff_33 : decode cX7_firstOff 33 = .ok (.imul, 1) := by decide +kernel
theorem dX7_firstOff_34 : decode cX7_firstOff 34 = .ok (.if_icmp .ge 62, 3) := by decide +kernel
theorem dX7_firstOff_37 : decode cX7_firstOff 37 = .ok (.lload 6, 2) := by decide +kernel
theorem dX7_firstOff_39 : decode cX7_firstOff 39 = .ok (.aload_n 0, 1) := by decide +kernel
theorem dX7_firstOff_40 : decode cX7_firstOff 40 = .ok (.iload_n 2, 1) := by decide +kernel
theorem dX7_firstOff_41 : decode cX7_firstOff 41 = .ok (.iload_n 3, 1) := by decide +kernel
theorem dX7_firstOff_42 : decode cX7_firstOff 42 = .ok (.iload 5, 2) := by decide +kernel
theorem dX7_firstOff_44 : decode cX7_firstOff 44 = .ok (.aload_n 0, 1) := by decide +kernel
theorem dX7_firstOff_45 : decode cX7_firstOff 45 = .ok (.getfield 23, 3) := by decide +kernel
theorem dX7_firstOff_48 : decode cX7_firstOff 48 = .ok (.idiv, 1) := by decide +kernel
theorem dX7_firstOff_49 : decode cX7_firstOff 49 = .ok (.iload 5, 2) := by decide +kernel
theorem dX7_firstOff_51 : decode cX7_firstOff 51 = .ok (.aload_n 0, 1) := by decide +kernel
theorem dX7_firstOff_52 : decode cX7_firstOff 52 = .ok (.getfield 23, 3) := by decide +kernel
theorem dX7_firstOff_55 : decode cX7_firstOff 55 = .ok (.irem, 1) := by decide +kernel
theorem dX7_firstOff_56 : decode cX7_firstOff 56 = .ok (.iload 8, 2) := by decide +kernel
theorem dX7_firstOff_58 : decode cX7_firstOff 58 = .ok (.aload_n 0, 1) := by decide +kernel
theorem dX7_firstOff_59 : decode cX7_firstOff 59 = .ok (.getfield 23, 3) := by decide +kernel
theorem dX7_firstOff_62 : decode cX7_firstOff 62 = .ok (.idiv, 1) := by decide +kernel
theorem dX7_firstOff_63 : decode cX7_firstOff 63 = .ok (.iload 8, 2) := by decide +kernel
theorem dX7_firstOff_65 : decode cX7_firstOff 65 = .ok (.aload_n 0, 1) := by decide +kernel
theorem dX7_firstOff_66 : decode cX7_firstOff 66 = .ok (.getfield 23, 3) := by decide +kernel
theorem dX7_firstOff_69 : decode cX7_firstOff 69 = .ok (.irem, 1) := by decide +kernel
theorem dX7_firstOff_70 : decode cX7_firstOff 70 = .ok (.invokevirtual 222, 3) := by decide +kernel
theorem dX7_firstOff_73 : decode cX7_firstOff 73 = .ok (.i2l, 1) := by decide +kernel
theorem dX7_firstOff_74 : decode cX7_firstOff 74 = .ok (.aload_n 0, 1) := by decide +kernel
theorem dX7_firstOff_75 : decode cX7_firstOff 75 = .ok (.getfield 73, 3) := by decide +kernel
theorem dX7_firstOff_78 : decode cX7_firstOff 78 = .ok (.bipush 40, 2) := by decide +kernel
theorem dX7_firstOff_80 : decode cX7_firstOff 80 = .ok (.iload_n 1, 1) := by decide +kernel
theorem dX7_firstOff_81 : decode cX7_firstOff 81 = .ok (.imul, 1) := by decide +kernel
theorem dX7_firstOff_82 : decode cX7_firstOff 82 = .ok (.iload 8, 2) := by decide +kernel
theorem dX7_firstOff_84 : decode cX7_firstOff 84 = .ok (.iadd, 1) := by decide +kernel
theorem dX7_firstOff_85 : decode cX7_firstOff 85 = .ok (.laload, 1) := by decide +kernel
theorem dX7_firstOff_86 : decode cX7_firstOff 86 = .ok (.lmul, 1) := by decide +kernel
theorem dX7_firstOff_87 : decode cX7_firstOff 87 = .ok (.ladd, 1) := by decide +kernel
theorem dX7_firstOff_88 : decode cX7_firstOff 88 = .ok (.lstore 6, 2) := by decide +kernel
theorem dX7_firstOff_90 : decode cX7_firstOff 90 = .ok (.iinc 8 1, 3) := by decide +kernel
theorem dX7_firstOff_93 : decode cX7_firstOff 93 = .ok (.goto (-70), 3) := by decide +kernel
theorem dX7_firstOff_96 : decode cX7_firstOff 96 = .ok (.lload 6, 2) := by decide +kernel
theorem dX7_firstOff_98 : decode cX7_firstOff 98 = .ok (.iload 4, 2) := by decide +kernel
theorem dX7_firstOff_100 : decode cX7_firstOff 100 = .ok (.i2l, 1) := by decide +kernel
theorem dX7_firstOff_101 : decode cX7_firstOff 101 = .ok (.aload_n 0, 1) := by decide +kernel
theorem dX7_firstOff_102 : decode cX7_firstOff 102 = .ok (.iconst 2, 1) := by decide +kernel
theorem dX7_firstOff_103 : decode cX7_firstOff 103 = .ok (.iload 5, 2) := by decide +kernel
theorem dX7_firstOff_105 : decode cX7_firstOff 105 = .ok (.aload_n 0, 1) := by decide +kernel
theorem dX7_firstOff_106 : decode cX7_firstOff 106 = .ok (.getfield 23, 3) := by decide +kernel
theorem dX7_firstOff_109 : decode cX7_firstOff 109 = .ok (.idiv, 1) := by decide +kernel
theorem dX7_firstOff_110 : decode cX7_firstOff 110 = .ok (.iload 5, 2) := by decide +kernel
theorem dX7_firstOff_112 : decode cX7_firstOff 112 = .ok (.aload_n 0, 1) := by decide +kernel
theorem dX7_firstOff_113 : decode cX7_firstOff 113 = .ok (.getfield 23, 3) := by decide +kernel
theorem dX7_firstOff_116 : decode cX7_firstOff 116 = .ok (.irem, 1) := by decide +kernel
theorem dX7_firstOff_117 : decode cX7_firstOff 117 = .ok (.invokevirtual 128, 3) := by decide +kernel
theorem dX7_firstOff_120 : decode cX7_firstOff 120 = .ok (.i2l, 1) := by decide +kernel
theorem dX7_firstOff_121 : decode cX7_firstOff 121 = .ok (.lmul, 1) := by decide +kernel
theorem dX7_firstOff_122 : decode cX7_firstOff 122 = .ok (.lcmp, 1) := by decide +kernel
theorem dX7_firstOff_123 : decode cX7_firstOff 123 = .ok (.ifCond .eq 6, 3) := by decide +kernel
theorem dX7_firstOff_126 : decode cX7_firstOff 126 = .ok (.iload 5, 2) := by decide +kernel
theorem dX7_firstOff_128 : decode cX7_firstOff 128 = .ok (.ireturn, 1) := by decide +kernel
theorem dX7_firstOff_129 : decode cX7_firstOff 129 = .ok (.iinc 5 1, 3) := by decide +kernel
theorem dX7_firstOff_132 : decode cX7_firstOff 132 = .ok (.goto (-129), 3) := by decide +kernel
theorem dX7_firstOff_135 : decode cX7_firstOff 135 = .ok (.aload_n 0, 1) := by decide +kernel
theorem dX7_firstOff_136 : decode cX7_firstOff 136 = .ok (.getfield 19, 3) := by decide +kernel
theorem dX7_firstOff_139 : decode cX7_firstOff 139 = .ok (.aload_n 0, 1) := by decide +kernel
theorem dX7_firstOff_140 : decode cX7_firstOff 140 = .ok (.getfield 23, 3) := by decide +kernel
theorem dX7_firstOff_143 : decode cX7_firstOff 143 = .ok (.imul, 1) := by decide +kernel
theorem dX7_firstOff_144 : decode cX7_firstOff 144 = .ok (.ireturn, 1) := by decide +kernel
theorem dX7_isShaped_0 : decode cX7_isShaped 0 = .ok (.iconst 1, 1) := by decide +kernel
theorem dX7_isShaped_1 : decode cX7_isShaped 1 = .ok (.istore_n 3, 1) := by decide +kernel
theorem dX7_isShaped_2 : decode cX7_isShaped 2 = .ok (.iconst 0, 1) := by decide +kernel
theorem dX7_isShaped_3 : decode cX7_isShaped 3 = .ok (.istore 4, 2) := by decide +kernel
theorem dX7_isShaped_5 : decode cX7_isShaped 5 = .ok (.iload 4, 2) := by decide +kernel
theorem dX7_isShaped_7 : decode cX7_isShaped 7 = .ok (.aload_n 0, 1) := by decide +kernel
theorem dX7_isShaped_8 : decode cX7_isShaped 8 = .ok (.getfield 19, 3) := by decide +kernel
theorem dX7_isShaped_11 : decode cX7_isShaped 11 = .ok (.aload_n 0, 1) := by decide +kernel
theorem dX7_isShaped_12 : decode cX7_isShaped 12 = .ok (.getfield 23, 3) := by decide +kernel
theorem dX7_isShaped_15 : decode cX7_isShaped 15 = .ok (.imul, 1) := by decide +kernel
theorem dX7_isShaped_16 : decode cX7_isShaped 16 = .ok (.if_icmp .ge 125, 3) := by decide +kernel
theorem dX7_isShaped_19 : decode cX7_isShaped 19 = .ok (.iload_n 2, 1) := by decide +kernel
theorem dX7_isShaped_20 : decode cX7_isShaped 20 = .ok (.iconst 4, 1) := by decide +kernel
theorem dX7_isShaped_21 : decode cX7_isShaped 21 = .ok (.if_icmp .lt 120, 3) := by decide +kernel
theorem dX7_isShaped_24 : decode cX7_isShaped 24 = .ok (.iload 4, 2) := by decide +kernel
theorem dX7_isShaped_26 : decode cX7_isShaped 26 = .ok (.aload_n 0, 1) := by decide +kernel
theorem dX7_isShaped_27 : decode cX7_isShaped 27 = .ok (.getfield 23, 3) := by decide +kernel
theorem dX7_isShaped_30 : decode cX7_isShaped 30 = .ok (.idiv, 1) := by decide +kernel
theorem dX7_isShaped_31 : decode cX7_isShaped 31 = .ok (.istore 5, 2) := by decide +kernel
theorem dX7_isShaped_33 : decode cX7_isShaped 33 = .ok (.iload 4, 2) := by decide +kernel
theorem dX7_isShaped_35 : decode cX7_isShaped 35 = .ok (.aload_n 0, 1) := by decide +kernel
theorem dX7_isShaped_36 : decode cX7_isShaped 36 = .ok (.getfield 23, 3) := by decide +kernel
theorem dX7_isShaped_39 : decode cX7_isShaped 39 = .ok (.irem, 1) := by decide +kernel
theorem dX7_isShaped_40 : decode cX7_isShaped 40 = .ok (.istore 6, 2) := by decide +kernel
theorem dX7_isShaped_42 : decode cX7_isShaped 42 = .ok (.aload_n 0, 1) := by decide +kernel
theorem dX7_isShaped_43 : decode cX7_isShaped 43 = .ok (.getfield 73, 3) := by decide +kernel
theorem dX7_isShaped_46 : decode cX7_isShaped 46 = .ok (.bipush 40, 2) := by decide +kernel
theorem dX7_isShaped_48 : decode cX7_isShaped 48 = .ok (.iload_n 1, 1) := by decide +kernel
theorem dX7_isShaped_49 : decode cX7_isShaped 49 = .ok (.imul, 1) := by decide +kernel
theorem dX7_isShaped_50 : decode cX7_isShaped 50 = .ok (.iload 4, 2) := by decide +kernel
theorem dX7_isShaped_52 : decode cX7_isShaped 52 = .ok (.iadd, 1) := by decide +kernel
theorem dX7_isShaped_53 : decode cX7_isShaped 53 = .ok (.laload, 1) := by decide +kernel
theorem dX7_isShaped_54 : decode cX7_isShaped 54 = .ok (.lstore 7, 2) := by decide +kernel
theorem dX7_isShaped_56 : decode cX7_isShaped 56 = .ok (.aload_n 0, 1) := by decide +kernel
theorem dX7_isShaped_57 : decode cX7_isShaped 57 = .ok (.getfield 73, 3) := by decide +kernel
theorem dX7_isShaped_60 : decode cX7_isShaped 60 = .ok (.bipush 40, 2) := by decide +kernel
theorem dX7_isShaped_62 : decode cX7_isShaped 62 = .ok (.iload_n 1, 1) := by decide +kernel
theorem dX7_isShaped_63 : decode cX7_isShaped 63 = .ok (.imul, 1) := by decide +kernel
theorem dX7_isShaped_64 : decode cX7_isShaped 64 = .ok (.aload_n 0, 1) := by decide +kernel
theorem dX7_isShaped_65 : decode cX7_isShaped 65 = .ok (.getfield 23, 3) := by decide +kernel
theorem dX7_isShaped_68 : decode cX7_isShaped 68 = .ok (.iload 6, 2) := by decide +kernel
theorem dX7_isShaped_70 : decode cX7_isShaped 70 = .ok (.imul, 1) := by decide +kernel
theorem dX7_isShaped_71 : decode cX7_isShaped 71 = .ok (.iadd, 1) := by decide +kernel
theorem dX7_isShaped_72 : decode cX7_isShaped 72 = .ok (.iload 5, 2) := by decide +kernel
theorem dX7_isShaped_74 : decode cX7_isShaped 74 = .ok (.iadd, 1) := by decide +kernel
theorem dX7_isShaped_75 : decode cX7_isShaped 75 = .ok (.laload, 1) := by decide +kernel
theorem dX7_isShaped_76 : decode cX7_isShaped 76 = .ok (.lstore 9, 2) := by decide +kernel
theorem dX7_isShaped_78 : decode cX7_isShaped 78 = .ok (.iload_n 3, 1) := by decide +kernel
theorem dX7_isShaped_79 : decode cX7_isShaped 79 = .ok (.ifCond .eq 54, 3) := by decide +kernel
theorem dX7_isShaped_82 : decode cX7_isShaped 82 = .ok (.iload_n 2, 1) := by decide +kernel
theorem dX7_isShaped_83 : decode cX7_isShaped 83 = .ok (.iconst 4, 1) := by decide +kernel
theorem dX7_isShaped_84 : decode cX7_isShaped 84 = .ok (.if_icmp .ne 20, 3) := by decide +kernel
theorem dX7_isShaped_87 : decode cX7_isShaped 87 = .ok (.iload 5, 2) := by decide +kernel
theorem dX7_isShaped_89 : decode cX7_isShaped 89 = .ok (.iload 6, 2) := by decide +kernel
theorem dX7_isShaped_91 : decode cX7_isShaped 91 = .ok (.if_icmp .eq 38, 3) := by decide +kernel
theorem dX7_isShaped_94 : decode cX7_isShaped 94 = .ok (.lload 7, 2) := by decide +kernel
theorem dX7_isShaped_96 : decode cX7_isShaped 96 = .ok (.lconst 0, 1) := by decide +kernel
theorem dX7_isShaped_97 : decode cX7_isShaped 97 = .ok (.lcmp, 1) := by decide +kernel
theorem dX7_isShaped_98 : decode cX7_isShaped 98 = .ok (.ifCond .ne 35, 3) := by decide +kernel
theorem dX7_isShaped_101 : decode cX7_isShaped 101 = .ok (.goto 28, 3) := by decide +kernel
theorem dX7_isShaped_104 : decode cX7_isShaped 104 = .ok (.iload_n 2, 1) := by decide +kernel
theorem dX7_isShaped_105 : decode cX7_isShaped 105 = .ok (.iconst 5, 1) := by decide +kernel
theorem dX7_isShaped_106 : decode cX7_isShaped 106 = .ok (.if_icmp .ne 14, 3) := by decide +kernel
theorem dX7_isShaped_109 : decode cX7_isShaped 109 = .ok (.lload 7, 2) := by decide +kernel
theorem dX7_isShaped_111 : decode cX7_isShaped 111 = .ok (.lload 9, 2) := by decide +kernel
theorem dX7_isShaped_113 : decode cX7_isShaped 113 = .ok (.lcmp, 1) := by decide +kernel
theorem dX7_isShaped_114 : decode cX7_isShaped 114 = .ok (.ifCond .ne 19, 3) := by decide +kernel
theorem dX7_isShaped_117 : decode cX7_isShaped 117 = .ok (.goto 12, 3) := by decide +kernel
theorem dX7_isShaped_120 : decode cX7_isShaped 120 = .ok (.lload 7, 2) := by decide +kernel
theorem dX7_isShaped_122 : decode cX7_isShaped 122 = .ok (.lload 9, 2) := by decide +kernel
theorem dX7_isShaped_124 : decode cX7_isShaped 124 = .ok (.lneg, 1) := by decide +kernel
theorem dX7_isShaped_125 : decode cX7_isShaped 125 = .ok (.lcmp, 1) := by decide +kernel
theorem dX7_isShaped_126 : decode cX7_isShaped 126 = .ok (.ifCond .ne 7, 3) := by decide +kernel
theorem dX7_isShaped_129 : decode cX7_isShaped 129 = .ok (.iconst 1, 1) := by decide +kernel
theorem dX7_isShaped_130 : decode cX7_isShaped 130 = .ok (.goto 4, 3) := by decide +kernel
theorem dX7_isShaped_133 : decode cX7_isShaped 133 = .ok (.iconst 0, 1) := by decide +kernel
theorem dX7_isShaped_134 : decode cX7_isShaped 134 = .ok (.istore_n 3, 1) := by decide +kernel
theorem dX7_isShaped_135 : decode cX7_isShaped 135 = .ok (.iinc 4 1, 3) := by decide +kernel
theorem dX7_isShaped_138 : decode cX7_isShaped 138 = .ok (.goto (-133), 3) := by decide +kernel
theorem dX7_isShaped_141 : decode cX7_isShaped 141 = .ok (.iload_n 3, 1) := by decide +kernel
theorem dX7_isShaped_142 : decode cX7_isShaped 142 = .ok (.ireturn, 1) := by decide +kernel
theorem dX7_against_0 : decode cX7_against 0 = .ok (.aload_n 0, 1) := by decide +kernel
theorem dX7_against_1 : decode cX7_against 1 = .ok (.getfield 67, 3) := by decide +kernel
theorem dX7_against_4 : decode cX7_against 4 = .ok (.iload_n 1, 1) := by decide +kernel
theorem dX7_against_5 : decode cX7_against 5 = .ok (.iaload, 1) := by decide +kernel
theorem dX7_against_6 : decode cX7_against 6 = .ok (.iconst 2, 1) := by decide +kernel
theorem dX7_against_7 : decode cX7_against 7 = .ok (.if_icmp .eq 20, 3) := by decide +kernel
theorem dX7_against_10 : decode cX7_against 10 = .ok (.aload_n 0, 1) := by decide +kernel
theorem dX7_against_11 : decode cX7_against 11 = .ok (.getfield 67, 3) := by decide +kernel
theorem dX7_against_14 : decode cX7_against 14 = .ok (.iload_n 1, 1) := by decide +kernel
theorem dX7_against_15 : decode cX7_against 15 = .ok (.iaload, 1) := by decide +kernel
theorem dX7_against_16 : decode cX7_against 16 = .ok (.ifCond .ge 8, 3) := by decide +kernel
theorem dX7_against_19 : decode cX7_against 19 = .ok (.bipush (-11), 2) := by decide +kernel
theorem dX7_against_21 : decode cX7_against 21 = .ok (.goto 5, 3) := by decide +kernel
theorem dX7_against_24 : decode cX7_against 24 = .ok (.bipush (-13), 2) := by decide +kernel
theorem dX7_against_26 : decode cX7_against 26 = .ok (.ireturn, 1) := by decide +kernel
theorem dX7_against_27 : decode cX7_against 27 = .ok (.aload_n 0, 1) := by decide +kernel
theorem dX7_against_28 : decode cX7_against 28 = .ok (.getfield 70, 3) := by decide +kernel
theorem dX7_against_31 : decode cX7_against 31 = .ok (.iload_n 1, 1) := by decide +kernel
theorem dX7_against_32 : decode cX7_against 32 = .ok (.iaload, 1) := by decide +kernel
theorem dX7_against_33 : decode cX7_against 33 = .ok (.aload_n 0, 1) := by decide +kernel
theorem dX7_against_34 : decode cX7_against 34 = .ok (.getfield 19, 3) := by decide +kernel
theorem dX7_against_37 : decode cX7_against 37 = .ok (.aload_n 0, 1) := by decide +kernel
theorem dX7_against_38 : decode cX7_against 38 = .ok (.getfield 23, 3) := by decide +kernel
theorem dX7_against_41 : decode cX7_against 41 = .ok (.imul, 1) := by decide +kernel
theorem dX7_against_42 : decode cX7_against 42 = .ok (.if_icmp .ne 7, 3) := by decide +kernel
theorem dX7_against_45 : decode cX7_against 45 = .ok (.iconst 0, 1) := by decide +kernel
theorem dX7_against_46 : decode cX7_against 46 = .ok (.goto 5, 3) := by decide +kernel
theorem dX7_against_49 : decode cX7_against 49 = .ok (.bipush (-12), 2) := by decide +kernel
theorem dX7_against_51 : decode cX7_against 51 = .ok (.ireturn, 1) := by decide +kernel
theorem dX7_judge_0 : decode cX7_judge 0 = .ok (.aload_n 0, 1) := by decide +kernel
theorem dX7_judge_1 : decode cX7_judge 1 = .ok (.iload_n 1, 1) := by decide +kernel
theorem dX7_judge_2 : decode cX7_judge 2 = .ok (.invokevirtual 203, 3) := by decide +kernel
theorem dX7_judge_5 : decode cX7_judge 5 = .ok (.ifCond .eq 15, 3) := by decide +kernel
theorem dX7_judge_8 : decode cX7_judge 8 = .ok (.iload_n 2, 1) := by decide +kernel
theorem dX7_judge_9 : decode cX7_judge 9 = .ok (.invokestatic 303, 3) := by decide +kernel
theorem dX7_judge_12 : decode cX7_judge 12 = .ok (.ifCond .eq 8, 3) := by decide +kernel
theorem dX7_judge_15 : decode cX7_judge 15 = .ok (.iload_n 3, 1) := by decide +kernel
theorem dX7_judge_16 : decode cX7_judge 16 = .ok (.iconst 1, 1) := by decide +kernel
theorem dX7_judge_17 : decode cX7_judge 17 = .ok (.if_icmp .ge 5, 3) := by decide +kernel
theorem dX7_judge_20 : decode cX7_judge 20 = .ok (.iconst (-1), 1) := by decide +kernel
theorem dX7_judge_21 : decode cX7_judge 21 = .ok (.ireturn, 1) := by decide +kernel
theorem dX7_judge_22 : decode cX7_judge 22 = .ok (.aload_n 0, 1) := by decide +kernel
theorem dX7_judge_23 : decode cX7_judge 23 = .ok (.aload_n 0, 1) := by decide +kernel
theorem dX7_judge_24 : decode cX7_judge 24 = .ok (.getfield 29, 3) := by decide +kernel
theorem dX7_judge_27 : decode cX7_judge 27 = .ok (.iload_n 1, 1) := by decide +kernel
theorem dX7_judge_28 : decode cX7_judge 28 = .ok (.iaload, 1) := by decide +kernel
theorem dX7_judge_29 : decode cX7_judge 29 = .ok (.invokevirtual 209, 3) := by decide +kernel
theorem dX7_judge_32 : decode cX7_judge 32 = .ok (.ifCond .ne 6, 3) := by decide +kernel
theorem dX7_judge_35 : decode cX7_judge 35 = .ok (.bipush (-4), 2) := by decide +kernel
theorem dX7_judge_37 : decode cX7_judge 37 = .ok (.ireturn, 1) := by decide +kernel
theorem dX7_judge_38 : decode cX7_judge 38 = .ok (.aload_n 0, 1) := by decide +kernel
theorem dX7_judge_39 : decode cX7_judge 39 = .ok (.iload_n 2, 1) := by decide +kernel
theorem dX7_judge_40 : decode cX7_judge 40 = .ok (.invokevirtual 309, 3) := by decide +kernel
theorem dX7_judge_43 : decode cX7_judge 43 = .ok (.ifCond .ge 9, 3) := by decide +kernel
theorem dX7_judge_46 : decode cX7_judge 46 = .ok (.aload_n 0, 1) := by decide +kernel
theorem dX7_judge_47 : decode cX7_judge 47 = .ok (.iload_n 2, 1) := by decide +kernel
theorem dX7_judge_48 : decode cX7_judge 48 = .ok (.invokevirtual 309, 3) := by decide +kernel
theorem dX7_judge_51 : decode cX7_judge 51 = .ok (.ireturn, 1) := by decide +kernel
theorem dX7_judge_52 : decode cX7_judge 52 = .ok (.aload_n 0, 1) := by decide +kernel
theorem dX7_judge_53 : decode cX7_judge 53 = .ok (.iload_n 2, 1) := by decide +kernel
theorem dX7_judge_54 : decode cX7_judge 54 = .ok (.aload_n 0, 1) := by decide +kernel
theorem dX7_judge_55 : decode cX7_judge 55 = .ok (.getfield 29, 3) := by decide +kernel
theorem dX7_judge_58 : decode cX7_judge 58 = .ok (.iload_n 1, 1) := by decide +kernel
theorem dX7_judge_59 : decode cX7_judge 59 = .ok (.iaload, 1) := by decide +kernel
theorem dX7_judge_60 : decode cX7_judge 60 = .ok (.aload_n 0, 1) := by decide +kernel
theorem dX7_judge_61 : decode cX7_judge 61 = .ok (.getfield 32, 3) := by decide +kernel
theorem dX7_judge_64 : decode cX7_judge 64 = .ok (.iload_n 1, 1) := by decide +kernel
theorem dX7_judge_65 : decode cX7_judge 65 = .ok (.iaload, 1) := by decide +kernel
theorem dX7_judge_66 : decode cX7_judge 66 = .ok (.iload_n 3, 1) := by decide +kernel
theorem dX7_judge_67 : decode cX7_judge 67 = .ok (.invokevirtual 312, 3) := by decide +kernel
theorem dX7_judge_70 : decode cX7_judge 70 = .ok (.istore 4, 2) := by decide +kernel
theorem dX7_judge_72 : decode cX7_judge 72 = .ok (.iload 4, 2) := by decide +kernel
theorem dX7_judge_74 : decode cX7_judge 74 = .ok (.aload_n 0, 1) := by decide +kernel
theorem dX7_judge_75 : decode cX7_judge 75 = .ok (.getfield 19, 3) := by decide +kernel
theorem dX7_judge_78 : decode cX7_judge 78 = .ok (.aload_n 0, 1) := by decide +kernel
theorem dX7_judge_79 : decode cX7_judge 79 = .ok (.getfield 23, 3) := by decide +kernel
theorem dX7_judge_82 : decode cX7_judge 82 = .ok (.imul, 1) := by decide +kernel
theorem dX7_judge_83 : decode cX7_judge 83 = .ok (.if_icmp .lt 17, 3) := by decide +kernel
theorem dX7_judge_86 : decode cX7_judge 86 = .ok (.aload_n 0, 1) := by decide +kernel
theorem dX7_judge_87 : decode cX7_judge 87 = .ok (.iload_n 2, 1) := by decide +kernel
theorem dX7_judge_88 : decode cX7_judge 88 = .ok (.aload_n 0, 1) := by decide +kernel
theorem dX7_judge_89 : decode cX7_judge 89 = .ok (.getfield 29, 3) := by decide +kernel
theorem dX7_judge_92 : decode cX7_judge 92 = .ok (.iload_n 1, 1) := by decide +kernel
theorem dX7_judge_93 : decode cX7_judge 93 = .ok (.iaload, 1) := by decide +kernel
theorem dX7_judge_94 : decode cX7_judge 94 = .ok (.invokevirtual 316, 3) := by decide +kernel
theorem dX7_judge_97 : decode cX7_judge 97 = .ok (.ifCond .ne 10, 3) := by decide +kernel
theorem dX7_judge_100 : decode cX7_judge 100 = .ok (.iconst 1, 1) := by decide +kernel
theorem dX7_judge_101 : decode cX7_judge 101 = .ok (.iload 4, 2) := by decide +kernel
theorem dX7_judge_103 : decode cX7_judge 103 = .ok (.iadd, 1) := by decide +kernel
theorem dX7_judge_104 : decode cX7_judge 104 = .ok (.goto 4, 3) := by decide +kernel
theorem dX7_judge_107 : decode cX7_judge 107 = .ok (.iconst 0, 1) := by decide +kernel
theorem dX7_judge_108 : decode cX7_judge 108 = .ok (.ireturn, 1) := by decide +kernel
theorem dX7_kinds_0 : decode cX7_kinds 0 = .ok (.iload_n 1, 1) := by decide +kernel
theorem dX7_kinds_1 : decode cX7_kinds 1 = .ok (.invokestatic 303, 3) := by decide +kernel
theorem dX7_kinds_4 : decode cX7_kinds 4 = .ok (.ifCond .eq 17, 3) := by decide +kernel
theorem dX7_kinds_7 : decode cX7_kinds 7 = .ok (.iload_n 2, 1) := by decide +kernel
theorem dX7_kinds_8 : decode cX7_kinds 8 = .ok (.i2l, 1) := by decide +kernel
theorem dX7_kinds_9 : decode cX7_kinds 9 = .ok (.ldc2_w 201, 3) := by decide +kernel
theorem dX7_kinds_12 : decode cX7_kinds 12 = .ok (.ldc2_w 97, 3) := by decide +kernel
theorem dX7_kinds_15 : decode cX7_kinds 15 = .ok (.invokestatic 99, 3) := by decide +kernel
theorem dX7_kinds_18 : decode cX7_kinds 18 = .ok (.ifCond .ne 5, 3) := by decide +kernel
theorem dX7_kinds_21 : decode cX7_kinds 21 = .ok (.iconst (-1), 1) := by decide +kernel
theorem dX7_kinds_22 : decode cX7_kinds 22 = .ok (.ireturn, 1) := by decide +kernel
theorem dX7_kinds_23 : decode cX7_kinds 23 = .ok (.aload_n 0, 1) := by decide +kernel
theorem dX7_kinds_24 : decode cX7_kinds 24 = .ok (.iload_n 1, 1) := by decide +kernel
theorem dX7_kinds_25 : decode cX7_kinds 25 = .ok (.invokevirtual 309, 3) := by decide +kernel
theorem dX7_kinds_28 : decode cX7_kinds 28 = .ok (.ifCond .ge 9, 3) := by decide +kernel
theorem dX7_kinds_31 : decode cX7_kinds 31 = .ok (.aload_n 0, 1) := by decide +kernel
theorem dX7_kinds_32 : decode cX7_kinds 32 = .ok (.iload_n 1, 1) := by decide +kernel
theorem dX7_kinds_33 : decode cX7_kinds 33 = .ok (.invokevirtual 309, 3) := by decide +kernel
theorem dX7_kinds_36 : decode cX7_kinds 36 = .ok (.ireturn, 1) := by decide +kernel
theorem dX7_kinds_37 : decode cX7_kinds 37 = .ok (.iconst 0, 1) := by decide +kernel
theorem dX7_kinds_38 : decode cX7_kinds 38 = .ok (.istore_n 3, 1) := by decide +kernel
theorem dX7_kinds_39 : decode cX7_kinds 39 = .ok (.iconst 0, 1) := by decide +kernel
theorem dX7_kinds_40 : decode cX7_kinds 40 = .ok (.istore 4, 2) := by decide +kernel
theorem dX7_kinds_42 : decode cX7_kinds 42 = .ok (.iload 4, 2) := by decide +kernel
theorem dX7_kinds_44 : decode cX7_kinds 44 = .ok (.bipush 6, 2) := by decide +kernel
theorem dX7_kinds_46 : decode cX7_kinds 46 = .ok (.if_icmp .gt 60, 3) := by decide +kernel
theorem dX7_kinds_49 : decode cX7_kinds 49 = .ok (.iload_n 3, 1) := by decide +kernel
theorem dX7_kinds_50 : decode cX7_kinds 50 = .ok (.aload_n 0, 1) := by decide +kernel
theorem dX7_kinds_51 : decode cX7_kinds 51 = .ok (.iload 4, 2) := by decide +kernel
theorem dX7_kinds_53 : decode cX7_kinds 53 = .ok (.invokevirtual 209, 3) := by decide +kernel
theorem dX7_kinds_56 : decode cX7_kinds 56 = .ok (.ifCond .eq 41, 3) := by decide +kernel
theorem dX7_kinds_59 : decode cX7_kinds 59 = .ok (.aload_n 0, 1) := by decide +kernel
theorem dX7_kinds_60 : decode cX7_kinds 60 = .ok (.iload_n 1, 1) := by decide +kernel
theorem dX7_kinds_61 : decode cX7_kinds 61 = .ok (.iload 4, 2) := by decide +kernel
theorem dX7_kinds_63 : decode cX7_kinds 63 = .ok (.iload_n 2, 1) := by decide +kernel
theorem dX7_kinds_64 : decode cX7_kinds 64 = .ok (.iconst 1, 1) := by decide +kernel
theorem dX7_kinds_65 : decode cX7_kinds 65 = .ok (.invokevirtual 312, 3) := by decide +kernel
theorem dX7_kinds_68 : decode cX7_kinds 68 = .ok (.aload_n 0, 1) := by decide +kernel
theorem dX7_kinds_69 : decode cX7_kinds 69 = .ok (.getfield 19, 3) := by decide +kernel
theorem dX7_kinds_72 : decode cX7_kinds 72 = .ok (.aload_n 0, 1) := by decide +kernel
theorem dX7_kinds_73 : decode cX7_kinds 73 = .ok (.getfield 23, 3) := by decide +kernel
theorem dX7_kinds_76 : decode cX7_kinds 76 = .ok (.imul, 1) := by decide +kernel
theorem dX7_kinds_77 : decode cX7_kinds 77 = .ok (.if_icmp .ne 20, 3) := by decide +kernel
theorem dX7_kinds_80 : decode cX7_kinds 80 = .ok (.aload_n 0, 1) := by decide +kernel
theorem dX7_kinds_81 : decode cX7_kinds 81 = .ok (.iload_n 1, 1) := by decide +kernel
theorem dX7_kinds_82 : decode cX7_kinds 82 = .ok (.iload 4, 2) := by decide +kernel
theorem dX7_kinds_84 : decode cX7_kinds 84 = .ok (.invokevirtual 316, 3) := by decide +kernel
theorem dX7_kinds_87 : decode cX7_kinds 87 = .ok (.ifCond .eq 10, 3) := by decide +kernel
theorem dX7_kinds_90 : decode cX7_kinds 90 = .ok (.iconst 1, 1) := by decide +kernel
theorem dX7_kinds_91 : decode cX7_kinds 91 = .ok (.iload 4, 2) := by decide +kernel
theorem dX7_kinds_93 : decode cX7_kinds 93 = .ok (.ishl, 1) := by decide +kernel
theorem dX7_kinds_94 : decode cX7_kinds 94 = .ok (.goto 4, 3) := by decide +kernel
theorem dX7_kinds_97 : decode cX7_kinds 97 = .ok (.iconst 0, 1) := by decide +kernel
theorem dX7_kinds_98 : decode cX7_kinds 98 = .ok (.ior, 1) := by decide +kernel
theorem dX7_kinds_99 : decode cX7_kinds 99 = .ok (.istore_n 3, 1) := by decide +kernel
theorem dX7_kinds_100 : decode cX7_kinds 100 = .ok (.iinc 4 1, 3) := by decide +kernel
theorem dX7_kinds_103 : decode cX7_kinds 103 = .ok (.goto (-61), 3) := by decide +kernel
theorem dX7_kinds_106 : decode cX7_kinds 106 = .ok (.iload_n 3, 1) := by decide +kernel
theorem dX7_kinds_107 : decode cX7_kinds 107 = .ok (.ireturn, 1) := by decide +kernel
theorem dX7_ratio_0 : decode cX7_ratio 0 = .ok (.iload 5, 2) := by decide +kernel
theorem dX7_ratio_2 : decode cX7_ratio 2 = .ok (.i2l, 1) := by decide +kernel
theorem dX7_ratio_3 : decode cX7_ratio 3 = .ok (.lconst 0, 1) := by decide +kernel
theorem dX7_ratio_4 : decode cX7_ratio 4 = .ok (.lconst 1, 1) := by decide +kernel
theorem dX7_ratio_5 : decode cX7_ratio 5 = .ok (.invokestatic 99, 3) := by decide +kernel
theorem dX7_ratio_8 : decode cX7_ratio 8 = .ok (.ifCond .ne 8, 3) := by decide +kernel
theorem dX7_ratio_11 : decode cX7_ratio 11 = .ok (.iconst (-1), 1) := by decide +kernel
theorem dX7_ratio_12 : decode cX7_ratio 12 = .ok (.invokestatic 140, 3) := by decide +kernel
theorem dX7_ratio_15 : decode cX7_ratio 15 = .ok (.lreturn, 1) := by decide +kernel
theorem dX7_ratio_16 : decode cX7_ratio 16 = .ok (.lload_n 3, 1) := by decide +kernel
theorem dX7_ratio_17 : decode cX7_ratio 17 = .ok (.lconst 0, 1) := by decide +kernel
theorem dX7_ratio_18 : decode cX7_ratio 18 = .ok (.lcmp, 1) := by decide +kernel
theorem dX7_ratio_19 : decode cX7_ratio 19 = .ok (.ifCond .ne 9, 3) := by decide +kernel
theorem dX7_ratio_22 : decode cX7_ratio 22 = .ok (.bipush (-15), 2) := by decide +kernel
theorem dX7_ratio_24 : decode cX7_ratio 24 = .ok (.invokestatic 140, 3) := by decide +kernel
theorem dX7_ratio_27 : decode cX7_ratio 27 = .ok (.lreturn, 1) := by decide +kernel
theorem dX7_ratio_28 : decode cX7_ratio 28 = .ok (.lload_n 1, 1) := by decide +kernel
theorem dX7_ratio_29 : decode cX7_ratio 29 = .ok (.lconst 0, 1) := by decide +kernel
theorem dX7_ratio_30 : decode cX7_ratio 30 = .ok (.lcmp, 1) := by decide +kernel
theorem dX7_ratio_31 : decode cX7_ratio 31 = .ok (.ifCond .ge 7, 3) := by decide +kernel
theorem dX7_ratio_34 : decode cX7_ratio 34 = .ok (.lload_n 1, 1) := by decide +kernel
theorem dX7_ratio_35 : decode cX7_ratio 35 = .ok (.goto 5, 3) := by decide +kernel
theorem dX7_ratio_38 : decode cX7_ratio 38 = .ok (.lload_n 1, 1) := by decide +kernel
theorem dX7_ratio_39 : decode cX7_ratio 39 = .ok (.lneg, 1) := by decide +kernel
theorem dX7_ratio_40 : decode cX7_ratio 40 = .ok (.lstore 6, 2) := by decide +kernel
theorem dX7_ratio_42 : decode cX7_ratio 42 = .ok (.lload_n 3, 1) := by decide +kernel
theorem dX7_ratio_43 : decode cX7_ratio 43 = .ok (.lconst 0, 1) := by decide +kernel
theorem dX7_ratio_44 : decode cX7_ratio 44 = .ok (.lcmp, 1) := by decide +kernel
theorem dX7_ratio_45 : decode cX7_ratio 45 = .ok (.ifCond .ge 7, 3) := by decide +kernel
theorem dX7_ratio_48 : decode cX7_ratio 48 = .ok (.lload_n 3, 1) := by decide +kernel
theorem dX7_ratio_49 : decode cX7_ratio 49 = .ok (.goto 5, 3) := by decide +kernel
theorem dX7_ratio_52 : decode cX7_ratio 52 = .ok (.lload_n 3, 1) := by decide +kernel
theorem dX7_ratio_53 : decode cX7_ratio 53 = .ok (.lneg, 1) := by decide +kernel
theorem dX7_ratio_54 : decode cX7_ratio 54 = .ok (.lstore 8, 2) := by decide +kernel
theorem dX7_ratio_56 : decode cX7_ratio 56 = .ok (.lload 6, 2) := by decide +kernel
theorem dX7_ratio_58 : decode cX7_ratio 58 = .ok (.lstore 10, 2) := by decide +kernel
theorem dX7_ratio_60 : decode cX7_ratio 60 = .ok (.lload 8, 2) := by decide +kernel
theorem dX7_ratio_62 : decode cX7_ratio 62 = .ok (.lstore 12, 2) := by decide +kernel
theorem dX7_ratio_64 : decode cX7_ratio 64 = .ok (.lload 12, 2) := by decide +kernel
theorem dX7_ratio_66 : decode cX7_ratio 66 = .ok (.lconst 0, 1) := by decide +kernel
theorem dX7_ratio_67 : decode cX7_ratio 67 = .ok (.lcmp, 1) := by decide +kernel
theorem dX7_ratio_68 : decode cX7_ratio 68 = .ok (.ifCond .eq 21, 3) := by decide +kernel
theorem dX7_ratio_71 : decode cX7_ratio 71 = .ok (.lload 10, 2) := by decide +kernel
theorem dX7_ratio_73 : decode cX7_ratio 73 = .ok (.lload 12, 2) := by decide +kernel
theorem dX7_ratio_75 : decode cX7_ratio 75 = .ok (.lrem, 1) := by decide +kernel
theorem dX7_ratio_76 : decode cX7_ratio 76 = .ok (.lstore 14, 2) := by decide +kernel
theorem dX7_ratio_78 : decode cX7_ratio 78 = .ok (.lload 12, 2) := by decide +kernel
theorem dX7_ratio_80 : decode cX7_ratio 80 = .ok (.lstore 10, 2) := by decide +kernel
theorem dX7_ratio_82 : decode cX7_ratio 82 = .ok (.lload 14, 2) := by decide +kernel
theorem dX7_ratio_84 : decode cX7_ratio 84 = .ok (.lstore 12, 2) := by decide +kernel
theorem dX7_ratio_86 : decode cX7_ratio 86 = .ok (.goto (-22), 3) := by decide +kernel
theorem dX7_ratio_89 : decode cX7_ratio 89 = .ok (.lload 10, 2) := by decide +kernel
theorem dX7_ratio_91 : decode cX7_ratio 91 = .ok (.ldc2_w 321, 3) := by decide +kernel
theorem dX7_ratio_94 : decode cX7_ratio 94 = .ok (.lcmp, 1) := by decide +kernel
theorem dX7_ratio_95 : decode cX7_ratio 95 = .ok (.ifCond .ne 20, 3) := by decide +kernel
theorem dX7_ratio_98 : decode cX7_ratio 98 = .ok (.lload 6, 2) := by decide +kernel
theorem dX7_ratio_100 : decode cX7_ratio 100 = .ok (.lconst 0, 1) := by decide +kernel
theorem dX7_ratio_101 : decode cX7_ratio 101 = .ok (.lcmp, 1) := by decide +kernel
theorem dX7_ratio_102 : decode cX7_ratio 102 = .ok (.ifCond .ne 7, 3) := by decide +kernel
theorem dX7_ratio_105 : decode cX7_ratio 105 = .ok (.lconst 0, 1) := by decide +kernel
theorem dX7_ratio_106 : decode cX7_ratio 106 = .ok (.goto 15, 3) := by decide +kernel
theorem dX7_ratio_109 : decode cX7_ratio 109 = .ok (.ldc2_w 323, 3) := by decide +kernel
theorem dX7_ratio_112 : decode cX7_ratio 112 = .ok (.goto 9, 3) := by decide +kernel
theorem dX7_ratio_115 : decode cX7_ratio 115 = .ok (.lload 6, 2) := by decide +kernel
theorem dX7_ratio_117 : decode cX7_ratio 117 = .ok (.lload 10, 2) := by decide +kernel
theorem dX7_ratio_119 : decode cX7_ratio 119 = .ok (.lneg, 1) := by decide +kernel
theorem dX7_ratio_120 : decode cX7_ratio 120 = .ok (.ldiv, 1) := by decide +kernel
theorem dX7_ratio_121 : decode cX7_ratio 121 = .ok (.lstore 12, 2) := by decide +kernel
theorem dX7_ratio_123 : decode cX7_ratio 123 = .ok (.lload 10, 2) := by decide +kernel
theorem dX7_ratio_125 : decode cX7_ratio 125 = .ok (.ldc2_w 321, 3) := by decide +kernel
theorem dX7_ratio_128 : decode cX7_ratio 128 = .ok (.lcmp, 1) := by decide +kernel
theorem dX7_ratio_129 : decode cX7_ratio 129 = .ok (.ifCond .ne 20, 3) := by decide +kernel
theorem dX7_ratio_132 : decode cX7_ratio 132 = .ok (.lload 8, 2) := by decide +kernel
theorem dX7_ratio_134 : decode cX7_ratio 134 = .ok (.lconst 0, 1) := by decide +kernel
theorem dX7_ratio_135 : decode cX7_ratio 135 = .ok (.lcmp, 1) := by decide +kernel
theorem dX7_ratio_136 : decode cX7_ratio 136 = .ok (.ifCond .ne 7, 3) := by decide +kernel
theorem dX7_ratio_139 : decode cX7_ratio 139 = .ok (.lconst 0, 1) := by decide +kernel
theorem dX7_ratio_140 : decode cX7_ratio 140 = .ok (.goto 15, 3) := by decide +kernel
theorem dX7_ratio_143 : decode cX7_ratio 143 = .ok (.ldc2_w 323, 3) := by decide +kernel
theorem dX7_ratio_146 : decode cX7_ratio 146 = .ok (.goto 9, 3) := by decide +kernel
theorem dX7_ratio_149 : decode cX7_ratio 149 = .ok (.lload 8, 2) := by decide +kernel
theorem dX7_ratio_151 : decode cX7_ratio 151 = .ok (.lload 10, 2) := by decide +kernel
theorem dX7_ratio_153 : decode cX7_ratio 153 = .ok (.lneg, 1) := by decide +kernel
theorem dX7_ratio_154 : decode cX7_ratio 154 = .ok (.ldiv, 1) := by decide +kernel
theorem dX7_ratio_155 : decode cX7_ratio 155 = .ok (.lstore 14, 2) := by decide +kernel
theorem dX7_ratio_157 : decode cX7_ratio 157 = .ok (.lload_n 1, 1) := by decide +kernel
theorem dX7_ratio_158 : decode cX7_ratio 158 = .ok (.lconst 0, 1) := by decide +kernel
theorem dX7_ratio_159 : decode cX7_ratio 159 = .ok (.lcmp, 1) := by decide +kernel
theorem dX7_ratio_160 : decode cX7_ratio 160 = .ok (.ifCond .ge 7, 3) := by decide +kernel
theorem dX7_ratio_163 : decode cX7_ratio 163 = .ok (.iconst 1, 1) := by decide +kernel
theorem dX7_ratio_164 : decode cX7_ratio 164 = .ok (.goto 4, 3) := by decide +kernel
theorem dX7_ratio_167 : decode cX7_ratio 167 = .ok (.iconst 0, 1) := by decide +kernel
theorem dX7_ratio_168 : decode cX7_ratio 168 = .ok (.lload_n 3, 1) := by decide +kernel
theorem dX7_ratio_169 : decode cX7_ratio 169 = .ok (.lconst 0, 1) := by decide +kernel
theorem dX7_ratio_170 : decode cX7_ratio 170 = .ok (.lcmp, 1) := by decide +kernel
theorem dX7_ratio_171 : decode cX7_ratio 171 = .ok (.ifCond .ge 7, 3) := by decide +kernel
theorem dX7_ratio_174 : decode cX7_ratio 174 = .ok (.iconst 1, 1) := by decide +kernel
theorem dX7_ratio_175 : decode cX7_ratio 175 = .ok (.goto 4, 3) := by decide +kernel
theorem dX7_ratio_178 : decode cX7_ratio 178 = .ok (.iconst 0, 1) := by decide +kernel
theorem dX7_ratio_179 : decode cX7_ratio 179 = .ok (.if_icmp .eq 7, 3) := by decide +kernel
theorem dX7_ratio_182 : decode cX7_ratio 182 = .ok (.iconst 1, 1) := by decide +kernel
theorem dX7_ratio_183 : decode cX7_ratio 183 = .ok (.goto 4, 3) := by decide +kernel
theorem dX7_ratio_186 : decode cX7_ratio 186 = .ok (.iconst 0, 1) := by decide +kernel
theorem dX7_ratio_187 : decode cX7_ratio 187 = .ok (.istore 16, 2) := by decide +kernel
theorem dX7_ratio_189 : decode cX7_ratio 189 = .ok (.lload 14, 2) := by decide +kernel
theorem dX7_ratio_191 : decode cX7_ratio 191 = .ok (.ldc2_w 321, 3) := by decide +kernel
theorem dX7_ratio_194 : decode cX7_ratio 194 = .ok (.lcmp, 1) := by decide +kernel
theorem dX7_ratio_195 : decode cX7_ratio 195 = .ok (.ifCond .eq 17, 3) := by decide +kernel
theorem dX7_ratio_198 : decode cX7_ratio 198 = .ok (.iload 16, 2) := by decide +kernel
theorem dX7_ratio_200 : decode cX7_ratio 200 = .ok (.ifCond .ne 18, 3) := by decide +kernel
theorem dX7_ratio_203 : decode cX7_ratio 203 = .ok (.lload 12, 2) := by decide +kernel
theorem dX7_ratio_205 : decode cX7_ratio 205 = .ok (.ldc2_w 321, 3) := by decide +kernel
theorem dX7_ratio_208 : decode cX7_ratio 208 = .ok (.lcmp, 1) := by decide +kernel
theorem dX7_ratio_209 : decode cX7_ratio 209 = .ok (.ifCond .ne 9, 3) := by decide +kernel
theorem dX7_ratio_212 : decode cX7_ratio 212 = .ok (.bipush (-16), 2) := by decide +kernel
theorem dX7_ratio_214 : decode cX7_ratio 214 = .ok (.invokestatic 140, 3) := by decide +kernel
theorem dX7_ratio_217 : decode cX7_ratio 217 = .ok (.lreturn, 1) := by decide +kernel
theorem dX7_ratio_218 : decode cX7_ratio 218 = .ok (.iload 5, 2) := by decide +kernel
theorem dX7_ratio_220 : decode cX7_ratio 220 = .ok (.iconst 1, 1) := by decide +kernel
theorem dX7_ratio_221 : decode cX7_ratio 221 = .ok (.if_icmp .ne 9, 3) := by decide +kernel
theorem dX7_ratio_224 : decode cX7_ratio 224 = .ok (.lload 14, 2) := by decide +kernel
theorem dX7_ratio_226 : decode cX7_ratio 226 = .ok (.lneg, 1) := by decide +kernel
theorem dX7_ratio_227 : decode cX7_ratio 227 = .ok (.goto 16, 3) := by decide +kernel
theorem dX7_ratio_230 : decode cX7_ratio 230 = .ok (.iload 16, 2) := by decide +kernel
theorem dX7_ratio_232 : decode cX7_ratio 232 = .ok (.ifCond .eq 8, 3) := by decide +kernel
theorem dX7_ratio_235 : decode cX7_ratio 235 = .ok (.lload 12, 2) := by decide +kernel
theorem dX7_ratio_237 : decode cX7_ratio 237 = .ok (.goto 6, 3) := by decide +kernel
theorem dX7_ratio_240 : decode cX7_ratio 240 = .ok (.lload 12, 2) := by decide +kernel
theorem dX7_ratio_242 : decode cX7_ratio 242 = .ok (.lneg, 1) := by decide +kernel
theorem dX7_ratio_243 : decode cX7_ratio 243 = .ok (.lreturn, 1) := by decide +kernel
theorem dX7_seed_0 : decode cX7_seed 0 = .ok (.aload_n 0, 1) := by decide +kernel
theorem dX7_seed_1 : decode cX7_seed 1 = .ok (.getfield 26, 3) := by decide +kernel
theorem dX7_seed_4 : decode cX7_seed 4 = .ok (.istore_n 2, 1) := by decide +kernel
theorem dX7_seed_5 : decode cX7_seed 5 = .ok (.aload_n 0, 1) := by decide +kernel
theorem dX7_seed_6 : decode cX7_seed 6 = .ok (.iload_n 1, 1) := by decide +kernel
theorem dX7_seed_7 : decode cX7_seed 7 = .ok (.putfield 26, 3) := by decide +kernel
theorem dX7_seed_10 : decode cX7_seed 10 = .ok (.iload_n 2, 1) := by decide +kernel
theorem dX7_seed_11 : decode cX7_seed 11 = .ok (.ireturn, 1) := by decide +kernel
theorem dX7_lots_0 : decode cX7_lots 0 = .ok (.iconst 0, 1) := by decide +kernel
theorem dX7_lots_1 : decode cX7_lots 1 = .ok (.istore_n 1, 1) := by decide +kernel
theorem dX7_lots_2 : decode cX7_lots 2 = .ok (.iload_n 1, 1) := by decide +kernel
theorem dX7_lots_3 : decode cX7_lots 3 = .ok (.iconst 3, 1) := by decide +kernel
theorem dX7_lots_4 : decode cX7_lots 4 = .ok (.if_icmp .ge 107, 3) := by decide +kernel
theorem dX7_lots_7 : decode cX7_lots 7 = .ok (.iconst 0, 1) := by decide +kernel
theorem dX7_lots_8 : decode cX7_lots 8 = .ok (.istore_n 2, 1) := by decide +kernel
theorem dX7_lots_9 : decode cX7_lots 9 = .ok (.iload_n 2, 1) := by decide +kernel
theorem dX7_lots_10 : decode cX7_lots 10 = .ok (.aload_n 0, 1) := by decide +kernel
theorem dX7_lots_11 : decode cX7_lots 11 = .ok (.iload_n 1, 1) := by decide +kernel
theorem dX7_lots_12 : decode cX7_lots 12 = .ok (.invokevirtual 103, 3) := by decide +kernel
theorem dX7_lots_15 : decode cX7_lots 15 = .ok (.if_icmp .ge 90, 3) := by decide +kernel
theorem dX7_lots_18 : decode cX7_lots 18 = .ok (.iconst 0, 1) := by decide +kernel
theorem dX7_lots_19 : decode cX7_lots 19 = .ok (.istore_n 3, 1) := by decide +kernel
theorem dX7_lots_20 : decode cX7_lots 20 = .ok (.iload_n 3, 1) := by decide +kernel
theorem dX7_lots_21 : decode cX7_lots 21 = .ok (.aload_n 0, 1) := by decide +kernel
theorem dX7_lots_22 : decode cX7_lots 22 = .ok (.iload_n 1, 1) := by decide +kernel
theorem dX7_lots_23 : decode cX7_lots 23 = .ok (.invokevirtual 107, 3) := by decide +kernel
theorem dX7_lots_26 : decode cX7_lots 26 = .ok (.if_icmp .ge 73, 3) := by decide +kernel
theorem dX7_lots_29 : decode cX7_lots 29 = .ok (.aload_n 0, 1) := by decide +kernel
theorem dX7_lots_30 : decode cX7_lots 30 = .ok (.aload_n 0, 1) := by decide +kernel
theorem dX7_lots_31 : decode cX7_lots 31 = .ok (.getfield 26, 3) := by decide +kernel
theorem dX7_lots_34 : decode cX7_lots 34 = .ok (.ldc_w 325, 3) := by decide +kernel
theorem dX7_lots_37 : decode cX7_lots 37 = .ok (.imul, 1) := by decide +kernel
theorem dX7_lots_38 : decode cX7_lots 38 = .ok (.sipush 12345, 3) := by decide +kernel
theorem dX7_lots_41 : decode cX7_lots 41 = .ok (.iadd, 1) := by decide +kernel
theorem dX7_lots_42 : decode cX7_lots 42 = .ok (.putfield 26, 3) := by decide +kernel
theorem dX7_lots_45 : decode cX7_lots 45 = .ok (.aload_n 0, 1) := by decide +kernel
theorem dX7_lots_46 : decode cX7_lots 46 = .ok (.getfield 7, 3) := by decide +kernel
theorem dX7_lots_49 : decode cX7_lots 49 = .ok (.bipush 9, 2) := by decide +kernel
theorem dX7_lots_51 : decode cX7_lots 51 = .ok (.iload_n 1, 1) := by decide +kernel
theorem dX7_lots_52 : decode cX7_lots 52 = .ok (.imul, 1) := by decide +kernel
theorem dX7_lots_53 : decode cX7_lots 53 = .ok (.iconst 3, 1) := by decide +kernel
theorem dX7_lots_54 : decode cX7_lots 54 = .ok (.iload_n 2, 1) := by decide +kernel
theorem dX7_lots_55 : decode cX7_lots 55 = .ok (.imul, 1) := by decide +kernel
theorem dX7_lots_56 : decode cX7_lots 56 = .ok (.iadd, 1) := by decide +kernel
theorem dX7_lots_57 : decode cX7_lots 57 = .ok (.iload_n 3, 1) := by decide +kernel
theorem dX7_lots_58 : decode cX7_lots 58 = .ok (.iadd, 1) := by decide +kernel
theorem dX7_lots_59 : decode cX7_lots 59 = .ok (.iload_n 1, 1) := by decide +kernel
theorem dX7_lots_60 : decode cX7_lots 60 = .ok (.iconst 2, 1) := by decide +kernel
theorem dX7_lots_61 : decode cX7_lots 61 = .ok (.if_icmp .ne 19, 3) := by decide +kernel
theorem dX7_lots_64 : decode cX7_lots 64 = .ok (.aload_n 0, 1) := by decide +kernel
theorem dX7_lots_65 : decode cX7_lots 65 = .ok (.getfield 26, 3) := by decide +kernel
theorem dX7_lots_68 : decode cX7_lots 68 = .ok (.bipush 16, 2) := by decide +kernel
theorem dX7_lots_70 : decode cX7_lots 70 = .ok (.iushr, 1) := by decide +kernel
theorem dX7_lots_71 : decode cX7_lots 71 = .ok (.bipush 101, 2) := by decide +kernel
theorem dX7_lots_73 : decode cX7_lots 73 = .ok (.irem, 1) := by decide +kernel
theorem dX7_lots_74 : decode cX7_lots 74 = .ok (.bipush 50, 2) := by decide +kernel
theorem dX7_lots_76 : decode cX7_lots 76 = .ok (.isub, 1) := by decide +kernel
theorem dX7_lots_77 : decode cX7_lots 77 = .ok (.goto 15, 3) := by decide +kernel
theorem dX7_lots_80 : decode cX7_lots 80 = .ok (.aload_n 0, 1) := by decide +kernel
theorem dX7_lots_81 : decode cX7_lots 81 = .ok (.getfield 26, 3) := by decide +kernel
theorem dX7_lots_84 : decode cX7_lots 84 = .ok (.bipush 16, 2) := by decide +kernel
theorem dX7_lots_86 : decode cX7_lots 86 = .ok (.iushr, 1) := by decide +kernel
theorem dX7_lots_87 : decode cX7_lots 87 = .ok (.bipush 11, 2) := by decide +kernel
theorem dX7_lots_89 : decode cX7_lots 89 = .ok (.irem, 1) := by decide +kernel
theorem dX7_lots_90 : decode cX7_lots 90 = .ok (.iconst 5, 1) := by decide +kernel
theorem dX7_lots_91 : decode cX7_lots 91 = .ok (.isub, 1) := by decide +kernel
theorem dX7_lots_92 : decode cX7_lots 92 = .ok (.iastore, 1) := by decide +kernel
theorem dX7_lots_93 : decode cX7_lots 93 = .ok (.iinc 3 1, 3) := by decide +kernel
theorem dX7_lots_96 : decode cX7_lots 96 = .ok (.goto (-76), 3) := by decide +kernel
theorem dX7_lots_99 : decode cX7_lots 99 = .ok (.iinc 2 1, 3) := by decide +kernel
theorem dX7_lots_102 : decode cX7_lots 102 = .ok (.goto (-93), 3) := by decide +kernel
theorem dX7_lots_105 : decode cX7_lots 105 = .ok (.iinc 1 1, 3) := by decide +kernel
theorem dX7_lots_108 : decode cX7_lots 108 = .ok (.goto (-106), 3) := by decide +kernel
theorem dX7_lots_111 : decode cX7_lots 111 = .ok (.return_, 1) := by decide +kernel
theorem dX7_lot_0 : decode cX7_lot 0 = .ok (.aload_n 0, 1) := by decide +kernel
theorem dX7_lot_1 : decode cX7_lot 1 = .ok (.invokevirtual 326, 3) := by decide +kernel
theorem dX7_lot_4 : decode cX7_lot 4 = .ok (.bipush 100, 2) := by decide +kernel
theorem dX7_lot_6 : decode cX7_lot 6 = .ok (.aload_n 0, 1) := by decide +kernel
theorem dX7_lot_7 : decode cX7_lot 7 = .ok (.iconst 2, 1) := by decide +kernel
theorem dX7_lot_8 : decode cX7_lot 8 = .ok (.iconst 0, 1) := by decide +kernel
theorem dX7_lot_9 : decode cX7_lot 9 = .ok (.iconst 0, 1) := by decide +kernel
theorem dX7_lot_10 : decode cX7_lot 10 = .ok (.invokevirtual 128, 3) := by decide +kernel
theorem dX7_lot_13 : decode cX7_lot 13 = .ok (.iadd, 1) := by decide +kernel
theorem dX7_lot_14 : decode cX7_lot 14 = .ok (.ireturn, 1) := by decide +kernel
theorem dX7_times_0 : decode cX7_times 0 = .ok (.aload_n 0, 1) := by decide +kernel
theorem dX7_times_1 : decode cX7_times 1 = .ok (.iload_n 1, 1) := by decide +kernel
theorem dX7_times_2 : decode cX7_times 2 = .ok (.invokevirtual 203, 3) := by decide +kernel
theorem dX7_times_5 : decode cX7_times 5 = .ok (.ifCond .eq 15, 3) := by decide +kernel
theorem dX7_times_8 : decode cX7_times 8 = .ok (.iload_n 2, 1) := by decide +kernel
theorem dX7_times_9 : decode cX7_times 9 = .ok (.i2l, 1) := by decide +kernel
theorem dX7_times_10 : decode cX7_times 10 = .ok (.lconst 1, 1) := by decide +kernel
theorem dX7_times_11 : decode cX7_times 11 = .ok (.ldc2_w 329, 3) := by decide +kernel
theorem dX7_times_14 : decode cX7_times 14 = .ok (.invokestatic 99, 3) := by decide +kernel
theorem dX7_times_17 : decode cX7_times 17 = .ok (.ifCond .ne 5, 3) := by decide +kernel
theorem dX7_times_20 : decode cX7_times 20 = .ok (.iconst (-1), 1) := by decide +kernel
theorem dX7_times_21 : decode cX7_times 21 = .ok (.ireturn, 1) := by decide +kernel
theorem dX7_times_22 : decode cX7_times 22 = .ok (.aload_n 0, 1) := by decide +kernel
theorem dX7_times_23 : decode cX7_times 23 = .ok (.aload_n 0, 1) := by decide +kernel
theorem dX7_times_24 : decode cX7_times 24 = .ok (.getfield 29, 3) := by decide +kernel
theorem dX7_times_27 : decode cX7_times 27 = .ok (.iload_n 1, 1) := by decide +kernel
theorem dX7_times_28 : decode cX7_times 28 = .ok (.iaload, 1) := by decide +kernel
theorem dX7_times_29 : decode cX7_times 29 = .ok (.invokevirtual 259, 3) := by decide +kernel
theorem dX7_times_32 : decode cX7_times 32 = .ok (.ifCond .ne 6, 3) := by decide +kernel
theorem dX7_times_35 : decode cX7_times 35 = .ok (.bipush (-4), 2) := by decide +kernel
theorem dX7_times_37 : decode cX7_times 37 = .ok (.ireturn, 1) := by decide +kernel
theorem dX7_times_38 : decode cX7_times 38 = .ok (.aload_n 0, 1) := by decide +kernel
theorem dX7_times_39 : decode cX7_times 39 = .ok (.aload_n 0, 1) := by decide +kernel
theorem dX7_times_40 : decode cX7_times 40 = .ok (.getfield 7, 3) := by decide +kernel
theorem dX7_times_43 : decode cX7_times 43 = .ok (.aload_n 0, 1) := by decide +kernel
theorem dX7_times_44 : decode cX7_times 44 = .ok (.getfield 16, 3) := by decide +kernel
theorem dX7_times_47 : decode cX7_times 47 = .ok (.invokevirtual 186, 3) := by decide +kernel
theorem dX7_times_50 : decode cX7_times 50 = .ok (.iconst 0, 1) := by decide +kernel
theorem dX7_times_51 : decode cX7_times 51 = .ok (.istore_n 3, 1) := by decide +kernel
theorem dX7_times_52 : decode cX7_times 52 = .ok (.iconst 0, 1) := by decide +kernel
theorem dX7_times_53 : decode cX7_times 53 = .ok (.istore 4, 2) := by decide +kernel
theorem dX7_times_55 : decode cX7_times 55 = .ok (.iload 4, 2) := by decide +kernel
theorem dX7_times_57 : decode cX7_times 57 = .ok (.iload_n 2, 1) := by decide +kernel
theorem dX7_times_58 : decode cX7_times 58 = .ok (.if_icmp .ge 33, 3) := by decide +kernel
theorem dX7_times_61 : decode cX7_times 61 = .ok (.aload_n 0, 1) := by decide +kernel
theorem dX7_times_62 : decode cX7_times 62 = .ok (.invokevirtual 326, 3) := by decide +kernel
theorem dX7_times_65 : decode cX7_times 65 = .ok (.aload_n 0, 1) := by decide +kernel
theorem dX7_times_66 : decode cX7_times 66 = .ok (.iload_n 1, 1) := by decide +kernel
theorem dX7_times_67 : decode cX7_times 67 = .ok (.invokevirtual 262, 3) := by decide +kernel
theorem dX7_times_70 : decode cX7_times 70 = .ok (.iload_n 3, 1) := by decide +kernel
theorem dX7_times_71 : decode cX7_times 71 = .ok (.aload_n 0, 1) := by decide +kernel
theorem dX7_times_72 : decode cX7_times 72 = .ok (.invokevirtual 270, 3) := by decide +kernel
theorem dX7_times_75 : decode cX7_times 75 = .ok (.ifCond .eq 7, 3) := by decide +kernel
theorem dX7_times_78 : decode cX7_times 78 = .ok (.iconst 1, 1) := by decide +kernel
theorem dX7_times_79 : decode cX7_times 79 = .ok (.goto 4, 3) := by decide +kernel
theorem dX7_times_82 : decode cX7_times 82 = .ok (.iconst 0, 1) := by decide +kernel
theorem dX7_times_83 : decode cX7_times 83 = .ok (.iadd, 1) := by decide +kernel
theorem dX7_times_84 : decode cX7_times 84 = .ok (.istore_n 3, 1) := by decide +kernel
theorem dX7_times_85 : decode cX7_times 85 = .ok (.iinc 4 1, 3) := by decide +kernel
theorem dX7_times_88 : decode cX7_times 88 = .ok (.goto (-33), 3) := by decide +kernel
theorem dX7_times_91 : decode cX7_times 91 = .ok (.aload_n 0, 1) := by decide +kernel
theorem dX7_times_92 : decode cX7_times 92 = .ok (.aload_n 0, 1) := by decide +kernel
theorem dX7_times_93 : decode cX7_times 93 = .ok (.getfield 16, 3) := by decide +kernel
theorem dX7_times_96 : decode cX7_times 96 = .ok (.aload_n 0, 1) := by decide +kernel
theorem dX7_times_97 : decode cX7_times 97 = .ok (.getfield 7, 3) := by decide +kernel
theorem dX7_times_100 : decode cX7_times 100 = .ok (.invokevirtual 186, 3) := by decide +kernel
theorem dX7_times_103 : decode cX7_times 103 = .ok (.iload_n 3, 1) := by decide +kernel
theorem dX7_times_104 : decode cX7_times 104 = .ok (.ireturn, 1) := by decide +kernel
theorem dX7_isSheet_0 : decode cX7_isSheet 0 = .ok (.iload_n 0, 1) := by decide +kernel
theorem dX7_isSheet_1 : decode cX7_isSheet 1 = .ok (.i2l, 1) := by decide +kernel
theorem dX7_isSheet_2 : decode cX7_isSheet 2 = .ok (.lconst 0, 1) := by decide +kernel
theorem dX7_isSheet_3 : decode cX7_isSheet 3 = .ok (.ldc2_w 118, 3) := by decide +kernel
theorem dX7_isSheet_6 : decode cX7_isSheet 6 = .ok (.invokestatic 99, 3) := by decide +kernel
theorem dX7_isSheet_9 : decode cX7_isSheet 9 = .ok (.ireturn, 1) := by decide +kernel
theorem dX7_sheet_0 : decode cX7_sheet 0 = .ok (.iload_n 1, 1) := by decide +kernel
theorem dX7_sheet_1 : decode cX7_sheet 1 = .ok (.invokestatic 303, 3) := by decide +kernel
theorem dX7_sheet_4 : decode cX7_sheet 4 = .ok (.ifCond .eq 27, 3) := by decide +kernel
theorem dX7_sheet_7 : decode cX7_sheet 7 = .ok (.iload_n 2, 1) := by decide +kernel
theorem dX7_sheet_8 : decode cX7_sheet 8 = .ok (.i2l, 1) := by decide +kernel
theorem dX7_sheet_9 : decode cX7_sheet 9 = .ok (.ldc2_w 323, 3) := by decide +kernel
theorem dX7_sheet_12 : decode cX7_sheet 12 = .ok (.ldc2_w 118, 3) := by decide +kernel
theorem dX7_sheet_15 : decode cX7_sheet 15 = .ok (.invokestatic 99, 3) := by decide +kernel
theorem dX7_sheet_18 : decode cX7_sheet 18 = .ok (.ifCond .eq 13, 3) := by decide +kernel
theorem dX7_sheet_21 : decode cX7_sheet 21 = .ok (.iload_n 2, 1) := by decide +kernel
theorem dX7_sheet_22 : decode cX7_sheet 22 = .ok (.ifCond .lt 11, 3) := by decide +kernel
theorem dX7_sheet_25 : decode cX7_sheet 25 = .ok (.iload_n 3, 1) := by decide +kernel
theorem dX7_sheet_26 : decode cX7_sheet 26 = .ok (.bipush 40, 2) := by decide +kernel
theorem dX7_sheet_28 : decode cX7_sheet 28 = .ok (.if_icmp .le 5, 3) := by decide +kernel
theorem dX7_sheet_31 : decode cX7_sheet 31 = .ok (.iconst (-1), 1) := by decide +kernel
theorem dX7_sheet_32 : decode cX7_sheet 32 = .ok (.ireturn, 1) := by decide +kernel
theorem dX7_sheet_33 : decode cX7_sheet 33 = .ok (.iload_n 2, 1) := by decide +kernel
theorem dX7_sheet_34 : decode cX7_sheet 34 = .ok (.ifCond .lt 10, 3) := by decide +kernel
theorem dX7_sheet_37 : decode cX7_sheet 37 = .ok (.iload_n 3, 1) := by decide +kernel
theorem dX7_sheet_38 : decode cX7_sheet 38 = .ok (.ifCond .ge 6, 3) := by decide +kernel
theorem dX7_sheet_41 : decode cX7_sheet 41 = .ok (.bipush (-14), 2) := by decide +kernel
theorem dX7_sheet_43 : decode cX7_sheet 43 = .ok (.ireturn, 1) := by decide +kernel
theorem dX7_sheet_44 : decode cX7_sheet 44 = .ok (.aload_n 0, 1) := by decide +kernel
theorem dX7_sheet_45 : decode cX7_sheet 45 = .ok (.getfield 67, 3) := by decide +kernel
theorem dX7_sheet_48 : decode cX7_sheet 48 = .ok (.iload_n 1, 1) := by decide +kernel
theorem dX7_sheet_49 : decode cX7_sheet 49 = .ok (.iload_n 2, 1) := by decide +kernel
theorem dX7_sheet_50 : decode cX7_sheet 50 = .ok (.iastore, 1) := by decide +kernel
theorem dX7_sheet_51 : decode cX7_sheet 51 = .ok (.aload_n 0, 1) := by decide +kernel
theorem dX7_sheet_52 : decode cX7_sheet 52 = .ok (.getfield 70, 3) := by decide +kernel
theorem dX7_sheet_55 : decode cX7_sheet 55 = .ok (.iload_n 1, 1) := by decide +kernel
theorem dX7_sheet_56 : decode cX7_sheet 56 = .ok (.iload_n 2, 1) := by decide +kernel
theorem dX7_sheet_57 : decode cX7_sheet 57 = .ok (.ifCond .ge 7, 3) := by decide +kernel
theorem dX7_sheet_60 : decode cX7_sheet 60 = .ok (.iconst 0, 1) := by decide +kernel
theorem dX7_sheet_61 : decode cX7_sheet 61 = .ok (.goto 4, 3) := by decide +kernel
theorem dX7_sheet_64 : decode cX7_sheet 64 = .ok (.iload_n 3, 1) := by decide +kernel
theorem dX7_sheet_65 : decode cX7_sheet 65 = .ok (.iastore, 1) := by decide +kernel
theorem dX7_sheet_66 : decode cX7_sheet 66 = .ok (.iconst 0, 1) := by decide +kernel
theorem dX7_sheet_67 : decode cX7_sheet 67 = .ok (.istore 4, 2) := by decide +kernel
theorem dX7_sheet_69 : decode cX7_sheet 69 = .ok (.iload 4, 2) := by decide +kernel
theorem dX7_sheet_71 : decode cX7_sheet 71 = .ok (.bipush 40, 2) := by decide +kernel
theorem dX7_sheet_73 : decode cX7_sheet 73 = .ok (.if_icmp .ge 22, 3) := by decide +kernel
theorem dX7_sheet_76 : decode cX7_sheet 76 = .ok (.aload_n 0, 1) := by decide +kernel
theorem dX7_sheet_77 : decode cX7_sheet 77 = .ok (.getfield 73, 3) := by decide +kernel
theorem dX7_sheet_80 : decode cX7_sheet 80 = .ok (.bipush 40, 2) := by decide +kernel
theorem dX7_sheet_82 : decode cX7_sheet 82 = .ok (.iload_n 1, 1) := by decide +kernel
theorem dX7_sheet_83 : decode cX7_sheet 83 = .ok (.imul, 1) := by decide +kernel
theorem dX7_sheet_84 : decode cX7_sheet 84 = .ok (.iload 4, 2) := by decide +kernel
theorem dX7_sheet_86 : decode cX7_sheet 86 = .ok (.iadd, 1) := by decide +kernel
theorem dX7_sheet_87 : decode cX7_sheet 87 = .ok (.lconst 0, 1) := by decide +kernel
theorem dX7_sheet_88 : decode cX7_sheet 88 = .ok (.lastore, 1) := by decide +kernel
theorem dX7_sheet_89 : decode cX7_sheet 89 = .ok (.iinc 4 1, 3) := by decide +kernel
theorem dX7_sheet_92 : decode cX7_sheet 92 = .ok (.goto (-23), 3) := by decide +kernel
theorem dX7_sheet_95 : decode cX7_sheet 95 = .ok (.iconst 1, 1) := by decide +kernel
theorem dX7_sheet_96 : decode cX7_sheet 96 = .ok (.ireturn, 1) := by decide +kernel
theorem dX7_narrowed_0 : decode cX7_narrowed 0 = .ok (.iload_n 0, 1) := by decide +kernel
theorem dX7_narrowed_1 : decode cX7_narrowed 1 = .ok (.ifCond .ne 10, 3) := by decide +kernel
theorem dX7_narrowed_4 : decode cX7_narrowed 4 = .ok (.lload_n 1, 1) := by decide +kernel
theorem dX7_narrowed_5 : decode cX7_narrowed 5 = .ok (.l2i, 1) := by decide +kernel
theorem dX7_narrowed_6 : decode cX7_narrowed 6 = .ok (.i2b, 1) := by decide +kernel
theorem dX7_narrowed_7 : decode cX7_narrowed 7 = .ok (.i2l, 1) := by decide +kernel
theorem dX7_narrowed_8 : decode cX7_narrowed 8 = .ok (.goto 27, 3) := by decide +kernel
theorem dX7_narrowed_11 : decode cX7_narrowed 11 = .ok (.iload_n 0, 1) := by decide +kernel
theorem dX7_narrowed_12 : decode cX7_narrowed 12 = .ok (.iconst 1, 1) := by decide +kernel
theorem dX7_narrowed_13 : decode cX7_narrowed 13 = .ok (.if_icmp .ne 10, 3) := by decide +kernel
theorem dX7_narrowed_16 : decode cX7_narrowed 16 = .ok (.lload_n 1, 1) := by decide +kernel
theorem dX7_narrowed_17 : decode cX7_narrowed 17 = .ok (.l2i, 1) := by decide +kernel
theorem dX7_narrowed_18 : decode cX7_narrowed 18 = .ok (.i2s, 1) := by decide +kernel
theorem dX7_narrowed_19 : decode cX7_narrowed 19 = .ok (.i2l, 1) := by decide +kernel
theorem dX7_narrowed_20 : decode cX7_narrowed 20 = .ok (.goto 15, 3) := by decide +kernel
theorem dX7_narrowed_23 : decode cX7_narrowed 23 = .ok (.iload_n 0, 1) := by decide +kernel
theorem dX7_narrowed_24 : decode cX7_narrowed 24 = .ok (.iconst 2, 1) := by decide +kernel
theorem dX7_narrowed_25 : decode cX7_narrowed 25 = .ok (.if_icmp .ne 9, 3) := by decide +kernel
theorem dX7_narrowed_28 : decode cX7_narrowed 28 = .ok (.lload_n 1, 1) := by decide +kernel
theorem dX7_narrowed_29 : decode cX7_narrowed 29 = .ok (.l2i, 1) := by decide +kernel
theorem dX7_narrowed_30 : decode cX7_narrowed 30 = .ok (.i2l, 1) := by decide +kernel
theorem dX7_narrowed_31 : decode cX7_narrowed 31 = .ok (.goto 4, 3) := by decide +kernel
theorem dX7_narrowed_34 : decode cX7_narrowed 34 = .ok (.lload_n 1, 1) := by decide +kernel
theorem dX7_narrowed_35 : decode cX7_narrowed 35 = .ok (.lreturn, 1) := by decide +kernel
theorem dX7_put_0 : decode cX7_put 0 = .ok (.iload_n 1, 1) := by decide +kernel
theorem dX7_put_1 : decode cX7_put 1 = .ok (.invokestatic 303, 3) := by decide +kernel
theorem dX7_put_4 : decode cX7_put 4 = .ok (.ifCond .ne 5, 3) := by decide +kernel
theorem dX7_put_7 : decode cX7_put 7 = .ok (.iconst (-1), 1) := by decide +kernel
theorem dX7_put_8 : decode cX7_put 8 = .ok (.ireturn, 1) := by decide +kernel
theorem dX7_put_9 : decode cX7_put 9 = .ok (.aload_n 0, 1) := by decide +kernel
theorem dX7_put_10 : decode cX7_put 10 = .ok (.getfield 67, 3) := by decide +kernel
theorem dX7_put_13 : decode cX7_put 13 = .ok (.iload_n 1, 1) := by decide +kernel
theorem dX7_put_14 : decode cX7_put 14 = .ok (.iaload, 1) := by decide +kernel
theorem dX7_put_15 : decode cX7_put 15 = .ok (.ifCond .ge 6, 3) := by decide +kernel
theorem dX7_put_18 : decode cX7_put 18 = .ok (.bipush (-11), 2) := by decide +kernel
theorem dX7_put_20 : decode cX7_put 20 = .ok (.ireturn, 1) := by decide +kernel
theorem dX7_put_21 : decode cX7_put 21 = .ok (.iload_n 2, 1) := by decide +kernel
theorem dX7_put_22 : decode cX7_put 22 = .ok (.i2l, 1) := by decide +kernel
theorem dX7_put_23 : decode cX7_put 23 = .ok (.lconst 0, 1) := by decide +kernel
theorem dX7_put_24 : decode cX7_put 24 = .ok (.aload_n 0, 1) := by decide +kernel
theorem dX7_put_25 : decode cX7_put 25 = .ok (.getfield 70, 3) := by decide +kernel
theorem dX7_put_28 : decode cX7_put 28 = .ok (.iload_n 1, 1) := by decide +kernel
theorem dX7_put_29 : decode cX7_put 29 = .ok (.iaload, 1) := by decide +kernel
theorem dX7_put_30 : decode cX7_put 30 = .ok (.iconst 1, 1) := by decide +kernel
theorem dX7_put_31 : decode cX7_put 31 = .ok (.isub, 1) := by decide +kernel
theorem dX7_put_32 : decode cX7_put 32 = .ok (.i2l, 1) := by decide +kernel
theorem dX7_put_33 : decode cX7_put 33 = .ok (.invokestatic 99, 3) := by decide +kernel
theorem dX7_put_36 : decode cX7_put 36 = .ok (.ifCond .ne 6, 3) := by decide +kernel
theorem dX7_put_39 : decode cX7_put 39 = .ok (.bipush (-12), 2) := by decide +kernel
theorem dX7_put_41 : decode cX7_put 41 = .ok (.ireturn, 1) := by decide +kernel
theorem dX7_put_42 : decode cX7_put 42 = .ok (.aload_n 0, 1) := by decide +kernel
theorem dX7_put_43 : decode cX7_put 43 = .ok (.getfield 73, 3) := by decide +kernel
theorem dX7_put_46 : decode cX7_put 46 = .ok (.bipush 40, 2) := by decide +kernel
theorem dX7_put_48 : decode cX7_put 48 = .ok (.iload_n 1, 1) := by decide +kernel
theorem dX7_put_49 : decode cX7_put 49 = .ok (.imul, 1) := by decide +kernel
theorem dX7_put_50 : decode cX7_put 50 = .ok (.iload_n 2, 1) := by decide +kernel
theorem dX7_put_51 : decode cX7_put 51 = .ok (.iadd, 1) := by decide +kernel
theorem dX7_put_52 : decode cX7_put 52 = .ok (.aload_n 0, 1) := by decide +kernel
theorem dX7_put_53 : decode cX7_put 53 = .ok (.getfield 67, 3) := by decide +kernel
theorem dX7_put_56 : decode cX7_put 56 = .ok (.iload_n 1, 1) := by decide +kernel
theorem dX7_put_57 : decode cX7_put 57 = .ok (.iaload, 1) := by decide +kernel
theorem dX7_put_58 : decode cX7_put 58 = .ok (.lload_n 3, 1) := by decide +kernel
theorem dX7_put_59 : decode cX7_put 59 = .ok (.invokestatic 331, 3) := by decide +kernel
theorem dX7_put_62 : decode cX7_put 62 = .ok (.lastore, 1) := by decide +kernel
theorem dX7_put_63 : decode cX7_put 63 = .ok (.iconst 1, 1) := by decide +kernel
theorem dX7_put_64 : decode cX7_put 64 = .ok (.ireturn, 1) := by decide +kernel
theorem dX7_item_0 : decode cX7_item 0 = .ok (.iload_n 1, 1) := by decide +kernel
theorem dX7_item_1 : decode cX7_item 1 = .ok (.invokestatic 303, 3) := by decide +kernel
theorem dX7_item_4 : decode cX7_item 4 = .ok (.ifCond .eq 15, 3) := by decide +kernel
theorem dX7_item_7 : decode cX7_item 7 = .ok (.iload_n 2, 1) := by decide +kernel
theorem dX7_item_8 : decode cX7_item 8 = .ok (.i2l, 1) := by decide +kernel
theorem dX7_item_9 : decode cX7_item 9 = .ok (.lconst 0, 1) := by decide +kernel
theorem dX7_item_10 : decode cX7_item 10 = .ok (.ldc2_w 118, 3) := by decide +kernel
theorem dX7_item_13 : decode cX7_item 13 = .ok (.invokestatic 99, 3) := by decide +kernel
theorem dX7_item_16 : decode cX7_item 16 = .ok (.ifCond .ne 5, 3) := by decide +kernel
theorem dX7_item_19 : decode cX7_item 19 = .ok (.iconst (-1), 1) := by decide +kernel
theorem dX7_item_20 : decode cX7_item 20 = .ok (.ireturn, 1) := by decide +kernel
theorem dX7_item_21 : decode cX7_item 21 = .ok (.aload_n 0, 1) := by decide +kernel
theorem dX7_item_22 : decode cX7_item 22 = .ok (.getfield 67, 3) := by decide +kernel
theorem dX7_item_25 : decode cX7_item 25 = .ok (.iload_n 1, 1) := by decide +kernel
theorem dX7_item_26 : decode cX7_item 26 = .ok (.iaload, 1) := by decide +kernel
theorem dX7_item_27 : decode cX7_item 27 = .ok (.iload_n 2, 1) := by decide +kernel
theorem dX7_item_28 : decode cX7_item 28 = .ok (.if_icmp .eq 20, 3) := by decide +kernel
theorem dX7_item_31 : decode cX7_item 31 = .ok (.aload_n 0, 1) := by decide +kernel
theorem dX7_item_32 : decode cX7_item 32 = .ok (.getfield 67, 3) := by decide +kernel
theorem dX7_item_35 : decode cX7_item 35 = .ok (.iload_n 1, 1) := by decide +kernel
theorem dX7_item_36 : decode cX7_item 36 = .ok (.iaload, 1) := by decide +kernel
theorem dX7_item_37 : decode cX7_item 37 = .ok (.ifCond .ge 8, 3) := by decide +kernel
theorem dX7_item_40 : decode cX7_item 40 = .ok (.bipush (-11), 2) := by decide +kernel
theorem dX7_item_42 : decode cX7_item 42 = .ok (.goto 5, 3) := by decide +kernel
theorem dX7_item_45 : decode cX7_item 45 = .ok (.bipush (-13), 2) := by decide +kernel
theorem dX7_item_47 : decode cX7_item 47 = .ok (.ireturn, 1) := by decide +kernel
theorem dX7_item_48 : decode cX7_item 48 = .ok (.iload_n 3, 1) := by decide +kernel
theorem dX7_item_49 : decode cX7_item 49 = .ok (.i2l, 1) := by decide +kernel
theorem dX7_item_50 : decode cX7_item 50 = .ok (.lconst 0, 1) := by decide +kernel
theorem dX7_item_51 : decode cX7_item 51 = .ok (.aload_n 0, 1) := by decide +kernel
theorem dX7_item_52 : decode cX7_item 52 = .ok (.getfield 70, 3) := by decide +kernel
theorem dX7_item_55 : decode cX7_item 55 = .ok (.iload_n 1, 1) := by decide +kernel
theorem dX7_item_56 : decode cX7_item 56 = .ok (.iaload, 1) := by decide +kernel
theorem dX7_item_57 : decode cX7_item 57 = .ok (.iconst 1, 1) := by decide +kernel
theorem dX7_item_58 : decode cX7_item 58 = .ok (.isub, 1) := by decide +kernel
theorem dX7_item_59 : decode cX7_item 59 = .ok (.i2l, 1) := by decide +kernel
theorem dX7_item_60 : decode cX7_item 60 = .ok (.invokestatic 99, 3) := by decide +kernel
theorem dX7_item_63 : decode cX7_item 63 = .ok (.ifCond .eq 18, 3) := by decide +kernel
theorem dX7_item_66 : decode cX7_item 66 = .ok (.aload_n 0, 1) := by decide +kernel
theorem dX7_item_67 : decode cX7_item 67 = .ok (.getfield 73, 3) := by decide +kernel
theorem dX7_item_70 : decode cX7_item 70 = .ok (.bipush 40, 2) := by decide +kernel
theorem dX7_item_72 : decode cX7_item 72 = .ok (.iload_n 1, 1) := by decide +kernel
theorem dX7_item_73 : decode cX7_item 73 = .ok (.imul, 1) := by decide +kernel
theorem dX7_item_74 : decode cX7_item 74 = .ok (.iload_n 3, 1) := by decide +kernel
theorem dX7_item_75 : decode cX7_item 75 = .ok (.iadd, 1) := by decide +kernel
theorem dX7_item_76 : decode cX7_item 76 = .ok (.laload, 1) := by decide +kernel
theorem dX7_item_77 : decode cX7_item 77 = .ok (.l2i, 1) := by decide +kernel
theorem dX7_item_78 : decode cX7_item 78 = .ok (.goto 5, 3) := by decide +kernel
theorem dX7_item_81 : decode cX7_item 81 = .ok (.bipush (-12), 2) := by decide +kernel
theorem dX7_item_83 : decode cX7_item 83 = .ok (.ireturn, 1) := by decide +kernel
theorem dX7_move_0 : decode cX7_move 0 = .ok (.iload_n 1, 1) := by decide +kernel
theorem dX7_move_1 : decode cX7_move 1 = .ok (.invokestatic 303, 3) := by decide +kernel
theorem dX7_move_4 : decode cX7_move 4 = .ok (.ifCond .eq 10, 3) := by decide +kernel
theorem dX7_move_7 : decode cX7_move 7 = .ok (.iload_n 3, 1) := by decide +kernel
theorem dX7_move_8 : decode cX7_move 8 = .ok (.invokestatic 303, 3) := by decide +kernel
theorem dX7_move_11 : decode cX7_move 11 = .ok (.ifCond .ne 5, 3) := by decide +kernel
theorem dX7_move_14 : decode cX7_move 14 = .ok (.iconst (-1), 1) := by decide +kernel
theorem dX7_move_15 : decode cX7_move 15 = .ok (.ireturn, 1) := by decide +kernel
theorem dX7_move_16 : decode cX7_move 16 = .ok (.aload_n 0, 1) := by decide +kernel
theorem dX7_move_17 : decode cX7_move 17 = .ok (.getfield 67, 3) := by decide +kernel
theorem dX7_move_20 : decode cX7_move 20 = .ok (.iload_n 1, 1) := by decide +kernel
theorem dX7_move_21 : decode cX7_move 21 = .ok (.iaload, 1) := by decide +kernel
theorem dX7_move_22 : decode cX7_move 22 = .ok (.ifCond .lt 12, 3) := by decide +kernel
theorem dX7_move_25 : decode cX7_move 25 = .ok (.aload_n 0, 1) := by decide +kernel
theorem dX7_move_26 : decode cX7_move 26 = .ok (.getfield 67, 3) := by decide +kernel
theorem dX7_move_29 : decode cX7_move 29 = .ok (.iload_n 3, 1) := by decide +kernel
theorem dX7_move_30 : decode cX7_move 30 = .ok (.iaload, 1) := by decide +kernel
theorem dX7_move_31 : decode cX7_move 31 = .ok (.ifCond .ge 6, 3) := by decide +kernel
theorem dX7_move_34 : decode cX7_move 34 = .ok (.bipush (-11), 2) := by decide +kernel
theorem dX7_move_36 : decode cX7_move 36 = .ok (.ireturn, 1) := by decide +kernel
theorem dX7_move_37 : decode cX7_move 37 = .ok (.aload_n 0, 1) := by decide +kernel
theorem dX7_move_38 : decode cX7_move 38 = .ok (.getfield 67, 3) := by decide +kernel
theorem dX7_move_41 : decode cX7_move 41 = .ok (.iload_n 1, 1) := by decide +kernel
theorem dX7_move_42 : decode cX7_move 42 = .ok (.iaload, 1) := by decide +kernel
theorem dX7_move_43 : decode cX7_move 43 = .ok (.aload_n 0, 1) := by decide +kernel
theorem dX7_move_44 : decode cX7_move 44 = .ok (.getfield 67, 3) := by decide +kernel
theorem dX7_move_47 : decode cX7_move 47 = .ok (.iload_n 3, 1) := by decide +kernel
theorem dX7_move_48 : decode cX7_move 48 = .ok (.iaload, 1) := by decide +kernel
theorem dX7_move_49 : decode cX7_move 49 = .ok (.if_icmp .eq 6, 3) := by decide +kernel
theorem dX7_move_52 : decode cX7_move 52 = .ok (.bipush (-13), 2) := by decide +kernel
theorem dX7_move_54 : decode cX7_move 54 = .ok (.ireturn, 1) := by decide +kernel
theorem dX7_move_55 : decode cX7_move 55 = .ok (.iload 5, 2) := by decide +kernel
theorem dX7_move_57 : decode cX7_move 57 = .ok (.ifCond .lt 39, 3) := by decide +kernel
theorem dX7_move_60 : decode cX7_move 60 = .ok (.iload_n 2, 1) := by decide +kernel
theorem dX7_move_61 : decode cX7_move 61 = .ok (.ifCond .lt 35, 3) := by decide +kernel
theorem dX7_move_64 : decode cX7_move 64 = .ok (.iload 4, 2) := by decide +kernel
theorem dX7_move_66 : decode cX7_move 66 = .ok (.ifCond .lt 30, 3) := by decide +kernel
theorem dX7_move_69 : decode cX7_move 69 = .ok (.iload_n 2, 1) := by decide +kernel
theorem dX7_move_70 : decode cX7_move 70 = .ok (.aload_n 0, 1) := by decide +kernel
theorem dX7_move_71 : decode cX7_move 71 = .ok (.getfield 70, 3) := by decide +kernel
theorem dX7_move_74 : decode cX7_move 74 = .ok (.iload_n 1, 1) := by decide +kernel
theorem dX7_move_75 : decode cX7_move 75 = .ok (.iaload, 1) := by decide +kernel
theorem dX7_move_76 : decode cX7_move 76 = .ok (.iload 5, 2) := by decide +kernel
theorem dX7_move_78 : decode cX7_move 78 = .ok (.isub, 1) := by decide +kernel
theorem dX7_move_79 : decode cX7_move 79 = .ok (.if_icmp .gt 17, 3) := by decide +kernel
theorem dX7_move_82 : decode cX7_move 82 = .ok (.iload 4, 2) := by decide +kernel
theorem dX7_move_84 : decode cX7_move 84 = .ok (.aload_n 0, 1) := by decide +kernel
theorem dX7_move_85 : decode cX7_move 85 = .ok (.getfield 70, 3) := by decide +kernel
theorem dX7_move_88 : decode cX7_move 88 = .ok (.iload_n 3, 1) := by decide +kernel
theorem dX7_move_89 : decode cX7_move 89 = .ok (.iaload, 1) := by decide +kernel
theorem dX7_move_90 : decode cX7_move 90 = .ok (.iload 5, 2) := by decide +kernel
theorem dX7_move_92 : decode cX7_move 92 = .ok (.isub, 1) := by decide +kernel
theorem dX7_move_93 : decode cX7_move 93 = .ok (.if_icmp .le 6, 3) := by decide +kernel
theorem dX7_move_96 : decode cX7_move 96 = .ok (.bipush (-12), 2) := by decide +kernel
theorem dX7_move_98 : decode cX7_move 98 = .ok (.ireturn, 1) := by decide +kernel
theorem dX7_move_99 : decode cX7_move 99 = .ok (.iconst 0, 1) := by decide +kernel
theorem dX7_move_100 : decode cX7_move 100 = .ok (.istore 6, 2) := by decide +kernel
theorem dX7_move_102 : decode cX7_move 102 = .ok (.iload 6, 2) := by decide +kernel
theorem dX7_move_104 : decode cX7_move 104 = .ok (.iload 5, 2) := by decide +kernel
theorem dX7_move_106 : decode cX7_move 106 = .ok (.if_icmp .ge 30, 3) := by decide +kernel
theorem dX7_move_109 : decode cX7_move 109 = .ok (.aload_n 0, 1) := by decide +kernel
theorem dX7_move_110 : decode cX7_move 110 = .ok (.getfield 76, 3) := by decide +kernel
theorem dX7_move_113 : decode cX7_move 113 = .ok (.iload 6, 2) := by decide +kernel
theorem dX7_move_115 : decode cX7_move 115 = .ok (.aload_n 0, 1) := by decide +kernel
theorem dX7_move_116 : decode cX7_move 116 = .ok (.getfield 73, 3) := by decide +kernel
theorem dX7_move_119 : decode cX7_move 119 = .ok (.bipush 40, 2) := by decide +kernel
theorem dX7_move_121 : decode cX7_move 121 = .ok (.iload_n 1, 1) := by decide +kernel
theorem dX7_move_122 : decode cX7_move 122 = .ok (.imul, 1) := by decide +kernel
theorem dX7_move_123 : decode cX7_move 123 = .ok (.iload_n 2, 1) := by decide +kernel
theorem dX7_move_124 : decode cX7_move 124 = .ok (.iadd, 1) := by decide +kernel
theorem dX7_move_125 : decode cX7_move 125 = .ok (.iload 6, 2) := by decide +kernel
theorem dX7_move_127 : decode cX7_move 127 = .ok (.iadd, 1) := by decide +kernel
theorem dX7_move_128 : decode cX7_move 128 = .ok (.laload, 1) := by decide +kernel
theorem dX7_move_129 : decode cX7_move 129 = .ok (.lastore, 1) := by decide +kernel
theorem dX7_move_130 : decode cX7_move 130 = .ok (.iinc 6 1, 3) := by decide +kernel
theorem dX7_move_133 : decode cX7_move 133 = .ok (.goto (-31), 3) := by decide +kernel
theorem dX7_move_136 : decode cX7_move 136 = .ok (.iconst 0, 1) := by decide +kernel
theorem dX7_move_137 : decode cX7_move 137 = .ok (.istore 6, 2) := by decide +kernel
theorem dX7_move_139 : decode cX7_move 139 = .ok (.iload 6, 2) := by decide +kernel
theorem dX7_move_141 : decode cX7_move 141 = .ok (.iload 5, 2) := by decide +kernel
theorem dX7_move_143 : decode cX7_move 143 = .ok (.if_icmp .ge 31, 3) := by decide +kernel
theorem dX7_move_146 : decode cX7_move 146 = .ok (.aload_n 0, 1) := by decide +kernel
theorem dX7_move_147 : decode cX7_move 147 = .ok (.getfield 73, 3) := by decide +kernel
theorem dX7_move_150 : decode cX7_move 150 = .ok (.bipush 40, 2) := by decide +kernel
theorem dX7_move_152 : decode cX7_move 152 = .ok (.iload_n 3, 1) := by decide +kernel
theorem dX7_move_153 : decode cX7_move 153 = .ok (.imul, 1) := by decide +kernel
theorem dX7_move_154 : decode cX7_move 154 = .ok (.iload 4, 2) := by decide +kernel
theorem dX7_move_156 : decode cX7_move 156 = .ok (.iadd, 1) := by decide +kernel
theorem dX7_move_157 : decode cX7_move 157 = .ok (.iload 6, 2) := by decide +kernel
theorem dX7_move_159 : decode cX7_move 159 = .ok (.iadd, 1) := by decide +kernel
theorem dX7_move_160 : decode cX7_move 160 = .ok (.aload_n 0, 1) := by decide +kernel
theorem dX7_move_161 : decode cX7_move 161 = .ok (.getfield 76, 3) := by decide +kernel
theorem dX7_move_164 : decode cX7_move 164 = .ok (.iload 6, 2) := by decide +kernel
theorem dX7_move_166 : decode cX7_move 166 = .ok (.laload, 1) := by decide +kernel
theorem dX7_move_167 : decode cX7_move 167 = .ok (.lastore, 1) := by decide +kernel
theorem dX7_move_168 : decode cX7_move 168 = .ok (.iinc 6 1, 3) := by decide +kernel
theorem dX7_move_171 : decode cX7_move 171 = .ok (.goto (-32), 3) := by decide +kernel
theorem dX7_move_174 : decode cX7_move 174 = .ok (.iload 5, 2) := by decide +kernel
theorem dX7_move_176 : decode cX7_move 176 = .ok (.ireturn, 1) := by decide +kernel
theorem dX7_isShelf_0 : decode cX7_isShelf 0 = .ok (.iload_n 0, 1) := by decide +kernel
theorem dX7_isShelf_1 : decode cX7_isShelf 1 = .ok (.i2l, 1) := by decide +kernel
theorem dX7_isShelf_2 : decode cX7_isShelf 2 = .ok (.lconst 0, 1) := by decide +kernel
theorem dX7_isShelf_3 : decode cX7_isShelf 3 = .ok (.ldc2_w 118, 3) := by decide +kernel
theorem dX7_isShelf_6 : decode cX7_isShelf 6 = .ok (.invokestatic 99, 3) := by decide +kernel
theorem dX7_isShelf_9 : decode cX7_isShelf 9 = .ok (.ireturn, 1) := by decide +kernel
theorem dX7_shelf_0 : decode cX7_shelf 0 = .ok (.iload_n 1, 1) := by decide +kernel
theorem dX7_shelf_1 : decode cX7_shelf 1 = .ok (.invokestatic 335, 3) := by decide +kernel
theorem dX7_shelf_4 : decode cX7_shelf 4 = .ok (.ifCond .eq 39, 3) := by decide +kernel
theorem dX7_shelf_7 : decode cX7_shelf 7 = .ok (.iload_n 2, 1) := by decide +kernel
theorem dX7_shelf_8 : decode cX7_shelf 8 = .ok (.i2l, 1) := by decide +kernel
theorem dX7_shelf_9 : decode cX7_shelf 9 = .ok (.lconst 0, 1) := by decide +kernel
theorem dX7_shelf_10 : decode cX7_shelf 10 = .ok (.ldc2_w 97, 3) := by decide +kernel
theorem dX7_shelf_13 : decode cX7_shelf 13 = .ok (.invokestatic 99, 3) := by decide +kernel
theorem dX7_shelf_16 : decode cX7_shelf 16 = .ok (.ifCond .eq 27, 3) := by decide +kernel
theorem dX7_shelf_19 : decode cX7_shelf 19 = .ok (.iload_n 2, 1) := by decide +kernel
theorem dX7_shelf_20 : decode cX7_shelf 20 = .ok (.ifCond .ne 11, 3) := by decide +kernel
theorem dX7_shelf_23 : decode cX7_shelf 23 = .ok (.aload_n 0, 1) := by decide +kernel
theorem dX7_shelf_24 : decode cX7_shelf 24 = .ok (.iload_n 3, 1) := by decide +kernel
theorem dX7_shelf_25 : decode cX7_shelf 25 = .ok (.invokevirtual 203, 3) := by decide +kernel
theorem dX7_shelf_28 : decode cX7_shelf 28 = .ok (.ifCond .eq 15, 3) := by decide +kernel
theorem dX7_shelf_31 : decode cX7_shelf 31 = .ok (.iload_n 2, 1) := by decide +kernel
theorem dX7_shelf_32 : decode cX7_shelf 32 = .ok (.iconst 1, 1) := by decide +kernel
theorem dX7_shelf_33 : decode cX7_shelf 33 = .ok (.if_icmp .ne 12, 3) := by decide +kernel
theorem dX7_shelf_36 : decode cX7_shelf 36 = .ok (.iload_n 3, 1) := by decide +kernel
theorem dX7_shelf_37 : decode cX7_shelf 37 = .ok (.invokestatic 303, 3) := by decide +kernel
theorem dX7_shelf_40 : decode cX7_shelf 40 = .ok (.ifCond .ne 5, 3) := by decide +kernel
theorem dX7_shelf_43 : decode cX7_shelf 43 = .ok (.iconst (-1), 1) := by decide +kernel
theorem dX7_shelf_44 : decode cX7_shelf 44 = .ok (.ireturn, 1) := by decide +kernel
theorem dX7_shelf_45 : decode cX7_shelf 45 = .ok (.aload_n 0, 1) := by decide +kernel
theorem dX7_shelf_46 : decode cX7_shelf 46 = .ok (.getfield 79, 3) := by decide +kernel
theorem dX7_shelf_49 : decode cX7_shelf 49 = .ok (.iload_n 1, 1) := by decide +kernel
theorem dX7_shelf_50 : decode cX7_shelf 50 = .ok (.iload_n 2, 1) := by decide +kernel
theorem dX7_shelf_51 : decode cX7_shelf 51 = .ok (.iconst 1, 1) := by decide +kernel
theorem dX7_shelf_52 : decode cX7_shelf 52 = .ok (.if_icmp .ne 16, 3) := by decide +kernel
theorem dX7_shelf_55 : decode cX7_shelf 55 = .ok (.aload_n 0, 1) := by decide +kernel
theorem dX7_shelf_56 : decode cX7_shelf 56 = .ok (.getfield 67, 3) := by decide +kernel
theorem dX7_shelf_59 : decode cX7_shelf 59 = .ok (.iload_n 3, 1) := by decide +kernel
theorem dX7_shelf_60 : decode cX7_shelf 60 = .ok (.iaload, 1) := by decide +kernel
theorem dX7_shelf_61 : decode cX7_shelf 61 = .ok (.ifCond .ge 7, 3) := by decide +kernel
theorem dX7_shelf_64 : decode cX7_shelf 64 = .ok (.iconst 2, 1) := by decide +kernel
theorem dX7_shelf_65 : decode cX7_shelf 65 = .ok (.goto 4, 3) := by decide +kernel
theorem dX7_shelf_68 : decode cX7_shelf 68 = .ok (.iload_n 2, 1) := by decide +kernel
theorem dX7_shelf_69 : decode cX7_shelf 69 = .ok (.iastore, 1) := by decide +kernel
theorem dX7_shelf_70 : decode cX7_shelf 70 = .ok (.aload_n 0, 1) := by decide +kernel
theorem dX7_shelf_71 : decode cX7_shelf 71 = .ok (.getfield 82, 3) := by decide +kernel
theorem dX7_shelf_74 : decode cX7_shelf 74 = .ok (.iload_n 1, 1) := by decide +kernel
theorem dX7_shelf_75 : decode cX7_shelf 75 = .ok (.iload_n 2, 1) := by decide +kernel
theorem dX7_shelf_76 : decode cX7_shelf 76 = .ok (.iconst 1, 1) := by decide +kernel
theorem dX7_shelf_77 : decode cX7_shelf 77 = .ok (.if_icmp .ne 12, 3) := by decide +kernel
theorem dX7_shelf_80 : decode cX7_shelf 80 = .ok (.aload_n 0, 1) := by decide +kernel
theorem dX7_shelf_81 : decode cX7_shelf 81 = .ok (.getfield 67, 3) := by decide +kernel
theorem dX7_shelf_84 : decode cX7_shelf 84 = .ok (.iload_n 3, 1) := by decide +kernel
theorem dX7_shelf_85 : decode cX7_shelf 85 = .ok (.iaload, 1) := by decide +kernel
theorem dX7_shelf_86 : decode cX7_shelf 86 = .ok (.goto 4, 3) := by decide +kernel
theorem dX7_shelf_89 : decode cX7_shelf 89 = .ok (.iload_n 3, 1) := by decide +kernel
theorem dX7_shelf_90 : decode cX7_shelf 90 = .ok (.iastore, 1) := by decide +kernel
theorem dX7_shelf_91 : decode cX7_shelf 91 = .ok (.aload_n 0, 1) := by decide +kernel
theorem dX7_shelf_92 : decode cX7_shelf 92 = .ok (.getfield 85, 3) := by decide +kernel
theorem dX7_shelf_95 : decode cX7_shelf 95 = .ok (.iload_n 1, 1) := by decide +kernel
theorem dX7_shelf_96 : decode cX7_shelf 96 = .ok (.iload_n 2, 1) := by decide +kernel
theorem dX7_shelf_97 : decode cX7_shelf 97 = .ok (.iconst 1, 1) := by decide +kernel
theorem dX7_shelf_98 : decode cX7_shelf 98 = .ok (.if_icmp .ne 12, 3) := by decide +kernel
theorem dX7_shelf_101 : decode cX7_shelf 101 = .ok (.aload_n 0, 1) := by decide +kernel
theorem dX7_shelf_102 : decode cX7_shelf 102 = .ok (.getfield 70, 3) := by decide +kernel
theorem dX7_shelf_105 : decode cX7_shelf 105 = .ok (.iload_n 3, 1) := by decide +kernel
theorem dX7_shelf_106 : decode cX7_shelf 106 = .ok (.iaload, 1) := by decide +kernel
theorem dX7_shelf_107 : decode cX7_shelf 107 = .ok (.goto 4, 3) := by decide +kernel
theorem dX7_shelf_110 : decode cX7_shelf 110 = .ok (.iconst 0, 1) := by decide +kernel
theorem dX7_shelf_111 : decode cX7_shelf 111 = .ok (.iastore, 1) := by decide +kernel
theorem dX7_shelf_112 : decode cX7_shelf 112 = .ok (.iconst 1, 1) := by decide +kernel
theorem dX7_shelf_113 : decode cX7_shelf 113 = .ok (.ireturn, 1) := by decide +kernel
theorem dX7_heldBy_0 : decode cX7_heldBy 0 = .ok (.aload_n 0, 1) := by decide +kernel
theorem dX7_heldBy_1 : decode cX7_heldBy 1 = .ok (.getfield 79, 3) := by decide +kernel
theorem dX7_heldBy_4 : decode cX7_heldBy 4 = .ok (.iload_n 1, 1) := by decide +kernel
theorem dX7_heldBy_5 : decode cX7_heldBy 5 = .ok (.iaload, 1) := by decide +kernel
theorem dX7_heldBy_6 : decode cX7_heldBy 6 = .ok (.ifCond .ne 20, 3) := by decide +kernel
theorem dX7_heldBy_9 : decode cX7_heldBy 9 = .ok (.aload_n 0, 1) := by decide +kernel
theorem dX7_heldBy_10 : decode cX7_heldBy 10 = .ok (.aload_n 0, 1) := by decide +kernel
theorem dX7_heldBy_11 : decode cX7_heldBy 11 = .ok (.getfield 82, 3) := by decide +kernel
theorem dX7_heldBy_14 : decode cX7_heldBy 14 = .ok (.iload_n 1, 1) := by decide +kernel
theorem dX7_heldBy_15 : decode cX7_heldBy 15 = .ok (.iaload, 1) := by decide +kernel
theorem dX7_heldBy_16 : decode cX7_heldBy 16 = .ok (.invokevirtual 203, 3) := by decide +kernel
theorem dX7_heldBy_19 : decode cX7_heldBy 19 = .ok (.ifCond .ne 7, 3) := by decide +kernel
theorem dX7_heldBy_22 : decode cX7_heldBy 22 = .ok (.iconst 2, 1) := by decide +kernel
theorem dX7_heldBy_23 : decode cX7_heldBy 23 = .ok (.goto 9, 3) := by decide +kernel
theorem dX7_heldBy_26 : decode cX7_heldBy 26 = .ok (.aload_n 0, 1) := by decide +kernel
theorem dX7_heldBy_27 : decode cX7_heldBy 27 = .ok (.getfield 79, 3) := by decide +kernel
theorem dX7_heldBy_30 : decode cX7_heldBy 30 = .ok (.iload_n 1, 1) := by decide +kernel
theorem dX7_heldBy_31 : decode cX7_heldBy 31 = .ok (.iaload, 1) := by decide +kernel
theorem dX7_heldBy_32 : decode cX7_heldBy 32 = .ok (.ireturn, 1) := by decide +kernel
theorem dX7_taken_0 : decode cX7_taken 0 = .ok (.iload_n 1, 1) := by decide +kernel
theorem dX7_taken_1 : decode cX7_taken 1 = .ok (.invokestatic 335, 3) := by decide +kernel
theorem dX7_taken_4 : decode cX7_taken 4 = .ok (.ifCond .eq 24, 3) := by decide +kernel
theorem dX7_taken_7 : decode cX7_taken 7 = .ok (.iload_n 2, 1) := by decide +kernel
theorem dX7_taken_8 : decode cX7_taken 8 = .ok (.invokestatic 198, 3) := by decide +kernel
theorem dX7_taken_11 : decode cX7_taken 11 = .ok (.ifCond .ne 19, 3) := by decide +kernel
theorem dX7_taken_14 : decode cX7_taken 14 = .ok (.iload_n 2, 1) := by decide +kernel
theorem dX7_taken_15 : decode cX7_taken 15 = .ok (.i2l, 1) := by decide +kernel
theorem dX7_taken_16 : decode cX7_taken 16 = .ok (.ldc2_w 338, 3) := by decide +kernel
theorem dX7_taken_19 : decode cX7_taken 19 = .ok (.ldc2_w 340, 3) := by decide +kernel
theorem dX7_taken_22 : decode cX7_taken 22 = .ok (.invokestatic 99, 3) := by decide +kernel
theorem dX7_taken_25 : decode cX7_taken 25 = .ok (.ifCond .ne 5, 3) := by decide +kernel
theorem dX7_taken_28 : decode cX7_taken 28 = .ok (.iconst (-1), 1) := by decide +kernel
theorem dX7_taken_29 : decode cX7_taken 29 = .ok (.ireturn, 1) := by decide +kernel
theorem dX7_taken_30 : decode cX7_taken 30 = .ok (.aload_n 0, 1) := by decide +kernel
theorem dX7_taken_31 : decode cX7_taken 31 = .ok (.iload_n 1, 1) := by decide +kernel
theorem dX7_taken_32 : decode cX7_taken 32 = .ok (.invokevirtual 342, 3) := by decide +kernel
theorem dX7_taken_35 : decode cX7_taken 35 = .ok (.istore_n 3, 1) := by decide +kernel
theorem dX7_taken_36 : decode cX7_taken 36 = .ok (.iload_n 3, 1) := by decide +kernel
theorem dX7_taken_37 : decode cX7_taken 37 = .ok (.iconst 2, 1) := by decide +kernel
theorem dX7_taken_38 : decode cX7_taken 38 = .ok (.if_icmp .ne 6, 3) := by decide +kernel
theorem dX7_taken_41 : decode cX7_taken 41 = .ok (.bipush (-11), 2) := by decide +kernel
theorem dX7_taken_43 : decode cX7_taken 43 = .ok (.ireturn, 1) := by decide +kernel
theorem dX7_taken_44 : decode cX7_taken 44 = .ok (.iload_n 3, 1) := by decide +kernel
theorem dX7_taken_45 : decode cX7_taken 45 = .ok (.ifCond .ne 39, 3) := by decide +kernel
theorem dX7_taken_48 : decode cX7_taken 48 = .ok (.iload_n 2, 1) := by decide +kernel
theorem dX7_taken_49 : decode cX7_taken 49 = .ok (.bipush 6, 2) := by decide +kernel
theorem dX7_taken_51 : decode cX7_taken 51 = .ok (.if_icmp .gt 30, 3) := by decide +kernel
theorem dX7_taken_54 : decode cX7_taken 54 = .ok (.aload_n 0, 1) := by decide +kernel
theorem dX7_taken_55 : decode cX7_taken 55 = .ok (.getfield 29, 3) := by decide +kernel
theorem dX7_taken_58 : decode cX7_taken 58 = .ok (.aload_n 0, 1) := by decide +kernel
theorem dX7_taken_59 : decode cX7_taken 59 = .ok (.getfield 82, 3) := by decide +kernel
theorem dX7_taken_62 : decode cX7_taken 62 = .ok (.iload_n 1, 1) := by decide +kernel
theorem dX7_taken_63 : decode cX7_taken 63 = .ok (.iaload, 1) := by decide +kernel
theorem dX7_taken_64 : decode cX7_taken 64 = .ok (.iaload, 1) := by decide +kernel
theorem dX7_taken_65 : decode cX7_taken 65 = .ok (.iload_n 2, 1) := by decide +kernel
theorem dX7_taken_66 : decode cX7_taken 66 = .ok (.invokestatic 345, 3) := by decide +kernel
theorem dX7_taken_69 : decode cX7_taken 69 = .ok (.ifCond .eq 12, 3) := by decide +kernel
theorem dX7_taken_72 : decode cX7_taken 72 = .ok (.aload_n 0, 1) := by decide +kernel
theorem dX7_taken_73 : decode cX7_taken 73 = .ok (.getfield 82, 3) := by decide +kernel
theorem dX7_taken_76 : decode cX7_taken 76 = .ok (.iload_n 1, 1) := by decide +kernel
theorem dX7_taken_77 : decode cX7_taken 77 = .ok (.iaload, 1) := by decide +kernel
theorem dX7_taken_78 : decode cX7_taken 78 = .ok (.goto 5, 3) := by decide +kernel
theorem dX7_taken_81 : decode cX7_taken 81 = .ok (.bipush (-13), 2) := by decide +kernel
theorem dX7_taken_83 : decode cX7_taken 83 = .ok (.ireturn, 1) := by decide +kernel
theorem dX7_taken_84 : decode cX7_taken 84 = .ok (.iload_n 2, 1) := by decide +kernel
theorem dX7_taken_85 : decode cX7_taken 85 = .ok (.bipush 10, 2) := by decide +kernel
theorem dX7_taken_87 : decode cX7_taken 87 = .ok (.aload_n 0, 1) := by decide +kernel
theorem dX7_taken_88 : decode cX7_taken 88 = .ok (.getfield 82, 3) := by decide +kernel
theorem dX7_taken_91 : decode cX7_taken 91 = .ok (.iload_n 1, 1) := by decide +kernel
theorem dX7_taken_92 : decode cX7_taken 92 = .ok (.iaload, 1) := by decide +kernel
theorem dX7_taken_93 : decode cX7_taken 93 = .ok (.iadd, 1) := by decide +kernel
theorem dX7_taken_94 : decode cX7_taken 94 = .ok (.if_icmp .ne 12, 3) := by decide +kernel
theorem dX7_taken_97 : decode cX7_taken 97 = .ok (.aload_n 0, 1) := by decide +kernel
theorem dX7_taken_98 : decode cX7_taken 98 = .ok (.getfield 85, 3) := by decide +kernel
theorem dX7_taken_101 : decode cX7_taken 101 = .ok (.iload_n 1, 1) := by decide +kernel
theorem dX7_taken_102 : decode cX7_taken 102 = .ok (.iaload, 1) := by decide +kernel
theorem dX7_taken_103 : decode cX7_taken 103 = .ok (.goto 5, 3) := by decide +kernel
theorem dX7_taken_106 : decode cX7_taken 106 = .ok (.bipush (-13), 2) := by decide +kernel
theorem dX7_taken_108 : decode cX7_taken 108 = .ok (.ireturn, 1) := by decide +kernel
theorem dX7_ran_0 : decode cX7_ran 0 = .ok (.aload_n 0, 1) := by decide +kernel
theorem dX7_ran_1 : decode cX7_ran 1 = .ok (.getfield 348, 3) := by decide +kernel
theorem dX7_ran_4 : decode cX7_ran 4 = .ok (.bipush 30, 2) := by decide +kernel
theorem dX7_ran_6 : decode cX7_ran 6 = .ok (.if_icmp .ge 23, 3) := by decide +kernel
theorem dX7_ran_9 : decode cX7_ran 9 = .ok (.aload_n 0, 1) := by decide +kernel
theorem dX7_ran_10 : decode cX7_ran 10 = .ok (.getfield 88, 3) := by decide +kernel
theorem dX7_ran_13 : decode cX7_ran 13 = .ok (.aload_n 0, 1) := by decide +kernel
theorem dX7_ran_14 : decode cX7_ran 14 = .ok (.getfield 348, 3) := by decide +kernel
theorem dX7_ran_17 : decode cX7_ran 17 = .ok (.iload_n 1, 1) := by decide +kernel
theorem dX7_ran_18 : decode cX7_ran 18 = .ok (.iastore, 1) := by decide +kernel
theorem dX7_ran_19 : decode cX7_ran 19 = .ok (.aload_n 0, 1) := by decide +kernel
theorem dX7_ran_20 : decode cX7_ran 20 = .ok (.dup, 1) := by decide +kernel
theorem dX7_ran_21 : decode cX7_ran 21 = .ok (.getfield 348, 3) := by decide +kernel
theorem dX7_ran_24 : decode cX7_ran 24 = .ok (.iconst 1, 1) := by decide +kernel
theorem dX7_ran_25 : decode cX7_ran 25 = .ok (.iadd, 1) := by decide +kernel
theorem dX7_ran_26 : decode cX7_ran 26 = .ok (.putfield 348, 3) := by decide +kernel
theorem dX7_ran_29 : decode cX7_ran 29 = .ok (.return_, 1) := by decide +kernel
theorem dX7_plainWeighs_0 : decode cX7_plainWeighs 0 = .ok (.aload_n 0, 1) := by decide +kernel
theorem dX7_plainWeighs_1 : decode cX7_plainWeighs 1 = .ok (.bipush 10, 2) := by decide +kernel
theorem dX7_plainWeighs_3 : decode cX7_plainWeighs 3 = .ok (.invokevirtual 351, 3) := by decide +kernel
theorem dX7_plainWeighs_6 : decode cX7_plainWeighs 6 = .ok (.iload_n 1, 1) := by decide +kernel
theorem dX7_plainWeighs_7 : decode cX7_plainWeighs 7 = .ok (.bipush 7, 2) := by decide +kernel
theorem dX7_plainWeighs_9 : decode cX7_plainWeighs 9 = .ok (.imul, 1) := by decide +kernel
theorem dX7_plainWeighs_10 : decode cX7_plainWeighs 10 = .ok (.aload_n 0, 1) := by decide +kernel
theorem dX7_plainWeighs_11 : decode cX7_plainWeighs 11 = .ok (.getfield 354, 3) := by decide +kernel
theorem dX7_plainWeighs_14 : decode cX7_plainWeighs 14 = .ok (.iadd, 1) := by decide +kernel
theorem dX7_plainWeighs_15 : decode cX7_plainWeighs 15 = .ok (.ireturn, 1) := by decide +kernel
theorem dX7_turnedWeighs_0 : decode cX7_turnedWeighs 0 = .ok (.aload_n 0, 1) := by decide +kernel
theorem dX7_turnedWeighs_1 : decode cX7_turnedWeighs 1 = .ok (.bipush 40, 2) := by decide +kernel
theorem dX7_turnedWeighs_3 : decode cX7_turnedWeighs 3 = .ok (.invokevirtual 351, 3) := by decide +kernel
theorem dX7_turnedWeighs_6 : decode cX7_turnedWeighs 6 = .ok (.aload_n 0, 1) := by decide +kernel
theorem dX7_turnedWeighs_7 : decode cX7_turnedWeighs 7 = .ok (.iload_n 1, 1) := by decide +kernel
theorem dX7_turnedWeighs_8 : decode cX7_turnedWeighs 8 = .ok (.iconst 1, 1) := by decide +kernel
theorem dX7_turnedWeighs_9 : decode cX7_turnedWeighs 9 = .ok (.isub, 1) := by decide +kernel
theorem dX7_turnedWeighs_10 : decode cX7_turnedWeighs 10 = .ok (.invokevirtual 357, 3) := by decide +kernel
theorem dX7_turnedWeighs_13 : decode cX7_turnedWeighs 13 = .ok (.iconst 2, 1) := by decide +kernel
theorem dX7_turnedWeighs_14 : decode cX7_turnedWeighs 14 = .ok (.imul, 1) := by decide +kernel
theorem dX7_turnedWeighs_15 : decode cX7_turnedWeighs 15 = .ok (.ireturn, 1) := by decide +kernel
theorem dX7_weighs_0 : decode cX7_weighs 0 = .ok (.aload_n 0, 1) := by decide +kernel
theorem dX7_weighs_1 : decode cX7_weighs 1 = .ok (.getfield 360, 3) := by decide +kernel
theorem dX7_weighs_4 : decode cX7_weighs 4 = .ok (.tableswitch 77 1 6 #[40, 77, 54, 77, 54, 60], 40) := by decide +kernel
theorem dX7_weighs_44 : decode cX7_weighs 44 = .ok (.aload_n 0, 1) := by decide +kernel
theorem dX7_weighs_45 : decode cX7_weighs 45 = .ok (.bipush 20, 2) := by decide +kernel
theorem dX7_weighs_47 : decode cX7_weighs 47 = .ok (.invokevirtual 351, 3) := by decide +kernel
theorem dX7_weighs_50 : decode cX7_weighs 50 = .ok (.aload_n 0, 1) := by decide +kernel
theorem dX7_weighs_51 : decode cX7_weighs 51 = .ok (.iload_n 1, 1) := by decide +kernel
theorem dX7_weighs_52 : decode cX7_weighs 52 = .ok (.invokevirtual 357, 3) := by decide +kernel
theorem dX7_weighs_55 : decode cX7_weighs 55 = .ok (.iconst 4, 1) := by decide +kernel
theorem dX7_weighs_56 : decode cX7_weighs 56 = .ok (.iadd, 1) := by decide +kernel
theorem dX7_weighs_57 : decode cX7_weighs 57 = .ok (.ireturn, 1) := by decide +kernel
theorem dX7_weighs_58 : decode cX7_weighs 58 = .ok (.aload_n 0, 1) := by decide +kernel
theorem dX7_weighs_59 : decode cX7_weighs 59 = .ok (.iload_n 1, 1) := by decide +kernel
theorem dX7_weighs_60 : decode cX7_weighs 60 = .ok (.invokevirtual 363, 3) := by decide +kernel
theorem dX7_weighs_63 : decode cX7_weighs 63 = .ok (.ireturn, 1) := by decide +kernel
theorem dX7_weighs_64 : decode cX7_weighs 64 = .ok (.aload_n 0, 1) := by decide +kernel
theorem dX7_weighs_65 : decode cX7_weighs 65 = .ok (.bipush 70, 2) := by decide +kernel
theorem dX7_weighs_67 : decode cX7_weighs 67 = .ok (.invokevirtual 351, 3) := by decide +kernel
theorem dX7_weighs_70 : decode cX7_weighs 70 = .ok (.aload_n 0, 1) := by decide +kernel
theorem dX7_weighs_71 : decode cX7_weighs 71 = .ok (.iload_n 1, 1) := by decide +kernel
theorem dX7_weighs_72 : decode cX7_weighs 72 = .ok (.invokevirtual 363, 3) := by decide +kernel
theorem dX7_weighs_75 : decode cX7_weighs 75 = .ok (.aload_n 0, 1) := by decide +kernel
theorem dX7_weighs_76 : decode cX7_weighs 76 = .ok (.getfield 366, 3) := by decide +kernel
theorem dX7_weighs_79 : decode cX7_weighs 79 = .ok (.ixor, 1) := by decide +kernel
theorem dX7_weighs_80 : decode cX7_weighs 80 = .ok (.ireturn, 1) := by decide +kernel
theorem dX7_weighs_81 : decode cX7_weighs 81 = .ok (.aload_n 0, 1) := by decide +kernel
theorem dX7_weighs_82 : decode cX7_weighs 82 = .ok (.iload_n 1, 1) := by decide +kernel
theorem dX7_weighs_83 : decode cX7_weighs 83 = .ok (.invokevirtual 357, 3) := by decide +kernel
theorem dX7_weighs_86 : decode cX7_weighs 86 = .ok (.ireturn, 1) := by decide +kernel
theorem dX7_plainTurns_0 : decode cX7_plainTurns 0 = .ok (.aload_n 0, 1) := by decide +kernel
theorem dX7_plainTurns_1 : decode cX7_plainTurns 1 = .ok (.bipush 11, 2) := by decide +kernel
theorem dX7_plainTurns_3 : decode cX7_plainTurns 3 = .ok (.invokevirtual 351, 3) := by decide +kernel
theorem dX7_plainTurns_6 : decode cX7_plainTurns 6 = .ok (.aload_n 0, 1) := by decide +kernel
theorem dX7_plainTurns_7 : decode cX7_plainTurns 7 = .ok (.iload_n 1, 1) := by decide +kernel
theorem dX7_plainTurns_8 : decode cX7_plainTurns 8 = .ok (.invokevirtual 369, 3) := by decide +kernel
theorem dX7_plainTurns_11 : decode cX7_plainTurns 11 = .ok (.aload_n 0, 1) := by decide +kernel
theorem dX7_plainTurns_12 : decode cX7_plainTurns 12 = .ok (.getfield 366, 3) := by decide +kernel
theorem dX7_plainTurns_15 : decode cX7_plainTurns 15 = .ok (.isub, 1) := by decide +kernel
theorem dX7_plainTurns_16 : decode cX7_plainTurns 16 = .ok (.ireturn, 1) := by decide +kernel
theorem dX7_alikeTurns_0 : decode cX7_alikeTurns 0 = .ok (.aload_n 0, 1) := by decide +kernel
theorem dX7_alikeTurns_1 : decode cX7_alikeTurns 1 = .ok (.bipush 30, 2) := by decide +kernel
theorem dX7_alikeTurns_3 : decode cX7_alikeTurns 3 = .ok (.invokevirtual 351, 3) := by decide +kernel
theorem dX7_alikeTurns_6 : decode cX7_alikeTurns 6 = .ok (.iconst 0, 1) := by decide +kernel
theorem dX7_alikeTurns_7 : decode cX7_alikeTurns 7 = .ok (.aload_n 0, 1) := by decide +kernel
theorem dX7_alikeTurns_8 : decode cX7_alikeTurns 8 = .ok (.iload_n 1, 1) := by decide +kernel
theorem dX7_alikeTurns_9 : decode cX7_alikeTurns 9 = .ok (.invokevirtual 372, 3) := by decide +kernel
theorem dX7_alikeTurns_12 : decode cX7_alikeTurns 12 = .ok (.isub, 1) := by decide +kernel
theorem dX7_alikeTurns_13 : decode cX7_alikeTurns 13 = .ok (.ireturn, 1) := by decide +kernel
theorem dX7_turns_0 : decode cX7_turns 0 = .ok (.aload_n 0, 1) := by decide +kernel
theorem dX7_turns_1 : decode cX7_turns 1 = .ok (.getfield 360, 3) := by decide +kernel
theorem dX7_turns_4 : decode cX7_turns 4 = .ok (.iconst 4, 1) := by decide +kernel
theorem dX7_turns_5 : decode cX7_turns 5 = .ok (.if_icmp .ne 22, 3) := by decide +kernel
theorem dX7_turns_8 : decode cX7_turns 8 = .ok (.aload_n 0, 1) := by decide +kernel
theorem dX7_turns_9 : decode cX7_turns 9 = .ok (.bipush 50, 2) := by decide +kernel
theorem dX7_turns_11 : decode cX7_turns 11 = .ok (.invokevirtual 351, 3) := by decide +kernel
theorem dX7_turns_14 : decode cX7_turns 14 = .ok (.aload_n 0, 1) := by decide +kernel
theorem dX7_turns_15 : decode cX7_turns 15 = .ok (.iload_n 1, 1) := by decide +kernel
theorem dX7_turns_16 : decode cX7_turns 16 = .ok (.aload_n 0, 1) := by decide +kernel
theorem dX7_turns_17 : decode cX7_turns 17 = .ok (.getfield 366, 3) := by decide +kernel
theorem dX7_turns_20 : decode cX7_turns 20 = .ok (.iadd, 1) := by decide +kernel
theorem dX7_turns_21 : decode cX7_turns 21 = .ok (.invokevirtual 375, 3) := by decide +kernel
theorem dX7_turns_24 : decode cX7_turns 24 = .ok (.iconst 3, 1) := by decide +kernel
theorem dX7_turns_25 : decode cX7_turns 25 = .ok (.ixor, 1) := by decide +kernel
theorem dX7_turns_26 : decode cX7_turns 26 = .ok (.ireturn, 1) := by decide +kernel
theorem dX7_turns_27 : decode cX7_turns 27 = .ok (.aload_n 0, 1) := by decide +kernel
theorem dX7_turns_28 : decode cX7_turns 28 = .ok (.getfield 360, 3) := by decide +kernel
theorem dX7_turns_31 : decode cX7_turns 31 = .ok (.iconst 2, 1) := by decide +kernel
theorem dX7_turns_32 : decode cX7_turns 32 = .ok (.if_icmp .ne 11, 3) := by decide +kernel
theorem dX7_turns_35 : decode cX7_turns 35 = .ok (.aload_n 0, 1) := by decide +kernel
theorem dX7_turns_36 : decode cX7_turns 36 = .ok (.iload_n 1, 1) := by decide +kernel
theorem dX7_turns_37 : decode cX7_turns 37 = .ok (.invokevirtual 375, 3) := by decide +kernel
theorem dX7_turns_40 : decode cX7_turns 40 = .ok (.goto 8, 3) := by decide +kernel
theorem dX7_turns_43 : decode cX7_turns 43 = .ok (.aload_n 0, 1) := by decide +kernel
theorem dX7_turns_44 : decode cX7_turns 44 = .ok (.iload_n 1, 1) := by decide +kernel
theorem dX7_turns_45 : decode cX7_turns 45 = .ok (.invokevirtual 372, 3) := by decide +kernel
theorem dX7_turns_48 : decode cX7_turns 48 = .ok (.ireturn, 1) := by decide +kernel
theorem dX7_parts_0 : decode cX7_parts 0 = .ok (.aload_n 0, 1) := by decide +kernel
theorem dX7_parts_1 : decode cX7_parts 1 = .ok (.getfield 360, 3) := by decide +kernel
theorem dX7_parts_4 : decode cX7_parts 4 = .ok (.iconst 3, 1) := by decide +kernel
theorem dX7_parts_5 : decode cX7_parts 5 = .ok (.if_icmp .eq 11, 3) := by decide +kernel
theorem dX7_parts_8 : decode cX7_parts 8 = .ok (.aload_n 0, 1) := by decide +kernel
theorem dX7_parts_9 : decode cX7_parts 9 = .ok (.getfield 360, 3) := by decide +kernel
theorem dX7_parts_12 : decode cX7_parts 12 = .ok (.iconst 5, 1) := by decide +kernel
theorem dX7_parts_13 : decode cX7_parts 13 = .ok (.if_icmp .lt 7, 3) := by decide +kernel
theorem dX7_parts_16 : decode cX7_parts 16 = .ok (.iconst 1, 1) := by decide +kernel
theorem dX7_parts_17 : decode cX7_parts 17 = .ok (.goto 4, 3) := by decide +kernel
theorem dX7_parts_20 : decode cX7_parts 20 = .ok (.iconst 0, 1) := by decide +kernel
theorem dX7_parts_21 : decode cX7_parts 21 = .ok (.istore_n 2, 1) := by decide +kernel
theorem dX7_parts_22 : decode cX7_parts 22 = .ok (.iload_n 2, 1) := by decide +kernel
theorem dX7_parts_23 : decode cX7_parts 23 = .ok (.ifCond .eq 9, 3) := by decide +kernel
theorem dX7_parts_26 : decode cX7_parts 26 = .ok (.aload_n 0, 1) := by decide +kernel
theorem dX7_parts_27 : decode cX7_parts 27 = .ok (.bipush 41, 2) := by decide +kernel
theorem dX7_parts_29 : decode cX7_parts 29 = .ok (.invokevirtual 351, 3) := by decide +kernel
theorem dX7_parts_32 : decode cX7_parts 32 = .ok (.aload_n 0, 1) := by decide +kernel
theorem dX7_parts_33 : decode cX7_parts 33 = .ok (.bipush 12, 2) := by decide +kernel
theorem dX7_parts_35 : decode cX7_parts 35 = .ok (.invokevirtual 351, 3) := by decide +kernel
theorem dX7_parts_38 : decode cX7_parts 38 = .ok (.aload_n 0, 1) := by decide +kernel
theorem dX7_parts_39 : decode cX7_parts 39 = .ok (.aload_n 0, 1) := by decide +kernel
theorem dX7_parts_40 : decode cX7_parts 40 = .ok (.getfield 378, 3) := by decide +kernel
theorem dX7_parts_43 : decode cX7_parts 43 = .ok (.ifCond .ne 14, 3) := by decide +kernel
theorem dX7_parts_46 : decode cX7_parts 46 = .ok (.aload_n 0, 1) := by decide +kernel
theorem dX7_parts_47 : decode cX7_parts 47 = .ok (.getfield 354, 3) := by decide +kernel
theorem dX7_parts_50 : decode cX7_parts 50 = .ok (.aload_n 0, 1) := by decide +kernel
theorem dX7_parts_51 : decode cX7_parts 51 = .ok (.getfield 366, 3) := by decide +kernel
theorem dX7_parts_54 : decode cX7_parts 54 = .ok (.if_icmp .ne 7, 3) := by decide +kernel
theorem dX7_parts_57 : decode cX7_parts 57 = .ok (.iconst 1, 1) := by decide +kernel
theorem dX7_parts_58 : decode cX7_parts 58 = .ok (.goto 4, 3) := by decide +kernel
theorem dX7_parts_61 : decode cX7_parts 61 = .ok (.iconst 0, 1) := by decide +kernel
theorem dX7_parts_62 : decode cX7_parts 62 = .ok (.putfield 378, 3) := by decide +kernel
theorem dX7_parts_65 : decode cX7_parts 65 = .ok (.aload_n 0, 1) := by decide +kernel
theorem dX7_parts_66 : decode cX7_parts 66 = .ok (.getfield 378, 3) := by decide +kernel
theorem dX7_parts_69 : decode cX7_parts 69 = .ok (.ifCond .eq 5, 3) := by decide +kernel
theorem dX7_parts_72 : decode cX7_parts 72 = .ok (.iconst 0, 1) := by decide +kernel
theorem dX7_parts_73 : decode cX7_parts 73 = .ok (.ireturn, 1) := by decide +kernel
theorem dX7_parts_74 : decode cX7_parts 74 = .ok (.aload_n 0, 1) := by decide +kernel
theorem dX7_parts_75 : decode cX7_parts 75 = .ok (.getfield 354, 3) := by decide +kernel
theorem dX7_parts_78 : decode cX7_parts 78 = .ok (.aload_n 0, 1) := by decide +kernel
theorem dX7_parts_79 : decode cX7_parts 79 = .ok (.getfield 366, 3) := by decide +kernel
theorem dX7_parts_82 : decode cX7_parts 82 = .ok (.isub, 1) := by decide +kernel
theorem dX7_parts_83 : decode cX7_parts 83 = .ok (.iconst (-1), 1) := by decide +kernel
theorem dX7_parts_84 : decode cX7_parts 84 = .ok (.if_icmp .ne 9, 3) := by decide +kernel
theorem dX7_parts_87 : decode cX7_parts 87 = .ok (.iconst 0, 1) := by decide +kernel
theorem dX7_parts_88 : decode cX7_parts 88 = .ok (.iload_n 1, 1) := by decide +kernel
theorem dX7_parts_89 : decode cX7_parts 89 = .ok (.isub, 1) := by decide +kernel
theorem dX7_parts_90 : decode cX7_parts 90 = .ok (.goto 14, 3) := by decide +kernel
theorem dX7_parts_93 : decode cX7_parts 93 = .ok (.iload_n 1, 1) := by decide +kernel
theorem dX7_parts_94 : decode cX7_parts 94 = .ok (.aload_n 0, 1) := by decide +kernel
theorem dX7_parts_95 : decode cX7_parts 95 = .ok (.getfield 354, 3) := by decide +kernel
theorem dX7_parts_98 : decode cX7_parts 98 = .ok (.aload_n 0, 1) := by decide +kernel
theorem dX7_parts_99 : decode cX7_parts 99 = .ok (.getfield 366, 3) := by decide +kernel
theorem dX7_parts_102 : decode cX7_parts 102 = .ok (.isub, 1) := by decide +kernel
theorem dX7_parts_103 : decode cX7_parts 103 = .ok (.idiv, 1) := by decide +kernel
theorem dX7_parts_104 : decode cX7_parts 104 = .ok (.istore_n 3, 1) := by decide +kernel
theorem dX7_parts_105 : decode cX7_parts 105 = .ok (.iload_n 2, 1) := by decide +kernel
theorem dX7_parts_106 : decode cX7_parts 106 = .ok (.ifCond .eq 16, 3) := by decide +kernel
theorem dX7_parts_109 : decode cX7_parts 109 = .ok (.iload_n 3, 1) := by decide +kernel
theorem dX7_parts_110 : decode cX7_parts 110 = .ok (.aload_n 0, 1) := by decide +kernel
theorem dX7_parts_111 : decode cX7_parts 111 = .ok (.aload_n 0, 1) := by decide +kernel
theorem dX7_parts_112 : decode cX7_parts 112 = .ok (.getfield 354, 3) := by decide +kernel
theorem dX7_parts_115 : decode cX7_parts 115 = .ok (.invokevirtual 369, 3) := by decide +kernel
theorem dX7_parts_118 : decode cX7_parts 118 = .ok (.isub, 1) := by decide +kernel
theorem dX7_parts_119 : decode cX7_parts 119 = .ok (.goto 4, 3) := by decide +kernel
theorem dX7_parts_122 : decode cX7_parts 122 = .ok (.iload_n 3, 1) := by decide +kernel
theorem dX7_parts_123 : decode cX7_parts 123 = .ok (.ireturn, 1) := by decide +kernel
theorem dX7_plainCloses_0 : decode cX7_plainCloses 0 = .ok (.aload_n 0, 1) := by decide +kernel
theorem dX7_plainCloses_1 : decode cX7_plainCloses 1 = .ok (.bipush 13, 2) := by decide +kernel
theorem dX7_plainCloses_3 : decode cX7_plainCloses 3 = .ok (.invokevirtual 351, 3) := by decide +kernel
theorem dX7_plainCloses_6 : decode cX7_plainCloses 6 = .ok (.aload_n 0, 1) := by decide +kernel
theorem dX7_plainCloses_7 : decode cX7_plainCloses 7 = .ok (.iload_n 1, 1) := by decide +kernel
theorem dX7_plainCloses_8 : decode cX7_plainCloses 8 = .ok (.invokevirtual 382, 3) := by decide +kernel
theorem dX7_plainCloses_11 : decode cX7_plainCloses 11 = .ok (.istore_n 2, 1) := by decide +kernel
theorem dX7_plainCloses_12 : decode cX7_plainCloses 12 = .ok (.iload_n 2, 1) := by decide +kernel
theorem dX7_plainCloses_13 : decode cX7_plainCloses 13 = .ok (.aload_n 0, 1) := by decide +kernel
theorem dX7_plainCloses_14 : decode cX7_plainCloses 14 = .ok (.iload_n 1, 1) := by decide +kernel
theorem dX7_plainCloses_15 : decode cX7_plainCloses 15 = .ok (.iconst 2, 1) := by decide +kernel
theorem dX7_plainCloses_16 : decode cX7_plainCloses 16 = .ok (.iadd, 1) := by decide +kernel
theorem dX7_plainCloses_17 : decode cX7_plainCloses 17 = .ok (.invokevirtual 385, 3) := by decide +kernel
theorem dX7_plainCloses_20 : decode cX7_plainCloses 20 = .ok (.ixor, 1) := by decide +kernel
theorem dX7_plainCloses_21 : decode cX7_plainCloses 21 = .ok (.ireturn, 1) := by decide +kernel
theorem dX7_evenCloses_0 : decode cX7_evenCloses 0 = .ok (.aload_n 0, 1) := by decide +kernel
theorem dX7_evenCloses_1 : decode cX7_evenCloses 1 = .ok (.bipush 60, 2) := by decide +kernel
theorem dX7_evenCloses_3 : decode cX7_evenCloses 3 = .ok (.invokevirtual 351, 3) := by decide +kernel
theorem dX7_evenCloses_6 : decode cX7_evenCloses 6 = .ok (.aload_n 0, 1) := by decide +kernel
theorem dX7_evenCloses_7 : decode cX7_evenCloses 7 = .ok (.iload_n 1, 1) := by decide +kernel
theorem dX7_evenCloses_8 : decode cX7_evenCloses 8 = .ok (.invokevirtual 388, 3) := by decide +kernel
theorem dX7_evenCloses_11 : decode cX7_evenCloses 11 = .ok (.istore_n 2, 1) := by decide +kernel
theorem dX7_evenCloses_12 : decode cX7_evenCloses 12 = .ok (.aload_n 0, 1) := by decide +kernel
theorem dX7_evenCloses_13 : decode cX7_evenCloses 13 = .ok (.getfield 378, 3) := by decide +kernel
theorem dX7_evenCloses_16 : decode cX7_evenCloses 16 = .ok (.ifCond .eq 7, 3) := by decide +kernel
theorem dX7_evenCloses_19 : decode cX7_evenCloses 19 = .ok (.iconst 0, 1) := by decide +kernel
theorem dX7_evenCloses_20 : decode cX7_evenCloses 20 = .ok (.goto 10, 3) := by decide +kernel
theorem dX7_evenCloses_23 : decode cX7_evenCloses 23 = .ok (.iload_n 2, 1) := by decide +kernel
theorem dX7_evenCloses_24 : decode cX7_evenCloses 24 = .ok (.aload_n 0, 1) := by decide +kernel
theorem dX7_evenCloses_25 : decode cX7_evenCloses 25 = .ok (.iconst 1, 1) := by decide +kernel
theorem dX7_evenCloses_26 : decode cX7_evenCloses 26 = .ok (.invokevirtual 382, 3) := by decide +kernel
theorem dX7_evenCloses_29 : decode cX7_evenCloses 29 = .ok (.iadd, 1) := by decide +kernel
theorem dX7_evenCloses_30 : decode cX7_evenCloses 30 = .ok (.ireturn, 1) := by decide +kernel
theorem dX7_closes_0 : decode cX7_closes 0 = .ok (.aload_n 0, 1) := by decide +kernel
theorem dX7_closes_1 : decode cX7_closes 1 = .ok (.getfield 360, 3) := by decide +kernel
theorem dX7_closes_4 : decode cX7_closes 4 = .ok (.bipush 6, 2) := by decide +kernel
theorem dX7_closes_6 : decode cX7_closes 6 = .ok (.if_icmp .ne 19, 3) := by decide +kernel
theorem dX7_closes_9 : decode cX7_closes 9 = .ok (.aload_n 0, 1) := by decide +kernel
theorem dX7_closes_10 : decode cX7_closes 10 = .ok (.bipush 71, 2) := by decide +kernel
theorem dX7_closes_12 : decode cX7_closes 12 = .ok (.invokevirtual 351, 3) := by decide +kernel
theorem dX7_closes_15 : decode cX7_closes 15 = .ok (.aload_n 0, 1) := by decide +kernel
theorem dX7_closes_16 : decode cX7_closes 16 = .ok (.iload_n 1, 1) := by decide +kernel
theorem dX7_closes_17 : decode cX7_closes 17 = .ok (.iconst 2, 1) := by decide +kernel
theorem dX7_closes_18 : decode cX7_closes 18 = .ok (.imul, 1) := by decide +kernel
theorem dX7_closes_19 : decode cX7_closes 19 = .ok (.invokevirtual 391, 3) := by decide +kernel
theorem dX7_closes_22 : decode cX7_closes 22 = .ok (.iconst 5, 1) := by decide +kernel
theorem dX7_closes_23 : decode cX7_closes 23 = .ok (.isub, 1) := by decide +kernel
theorem dX7_closes_24 : decode cX7_closes 24 = .ok (.ireturn, 1) := by decide +kernel
theorem dX7_closes_25 : decode cX7_closes 25 = .ok (.aload_n 0, 1) := by decide +kernel
theorem dX7_closes_26 : decode cX7_closes 26 = .ok (.getfield 360, 3) := by decide +kernel
theorem dX7_closes_29 : decode cX7_closes 29 = .ok (.iconst 5, 1) := by decide +kernel
theorem dX7_closes_30 : decode cX7_closes 30 = .ok (.if_icmp .ne 11, 3) := by decide +kernel
theorem dX7_closes_33 : decode cX7_closes 33 = .ok (.aload_n 0, 1) := by decide +kernel
theorem dX7_closes_34 : decode cX7_closes 34 = .ok (.iload_n 1, 1) := by decide +kernel
theorem dX7_closes_35 : decode cX7_closes 35 = .ok (.invokevirtual 391, 3) := by decide +kernel
theorem dX7_closes_38 : decode cX7_closes 38 = .ok (.goto 8, 3) := by decide +kernel
theorem dX7_closes_41 : decode cX7_closes 41 = .ok (.aload_n 0, 1) := by decide +kernel
theorem dX7_closes_42 : decode cX7_closes 42 = .ok (.iload_n 1, 1) := by decide +kernel
theorem dX7_closes_43 : decode cX7_closes 43 = .ok (.invokevirtual 388, 3) := by decide +kernel
theorem dX7_closes_46 : decode cX7_closes 46 = .ok (.ireturn, 1) := by decide +kernel
theorem dX7_act_0 : decode cX7_act 0 = .ok (.aload_n 0, 1) := by decide +kernel
theorem dX7_act_1 : decode cX7_act 1 = .ok (.iconst 0, 1) := by decide +kernel
theorem dX7_act_2 : decode cX7_act 2 = .ok (.putfield 348, 3) := by decide +kernel
theorem dX7_act_5 : decode cX7_act 5 = .ok (.iload_n 1, 1) := by decide +kernel
theorem dX7_act_6 : decode cX7_act 6 = .ok (.invokestatic 335, 3) := by decide +kernel
theorem dX7_act_9 : decode cX7_act 9 = .ok (.ifCond .eq 23, 3) := by decide +kernel
theorem dX7_act_12 : decode cX7_act 12 = .ok (.iload_n 2, 1) := by decide +kernel
theorem dX7_act_13 : decode cX7_act 13 = .ok (.i2l, 1) := by decide +kernel
theorem dX7_act_14 : decode cX7_act 14 = .ok (.lconst 0, 1) := by decide +kernel
theorem dX7_act_15 : decode cX7_act 15 = .ok (.ldc2_w 118, 3) := by decide +kernel
theorem dX7_act_18 : decode cX7_act 18 = .ok (.invokestatic 99, 3) := by decide +kernel
theorem dX7_act_21 : decode cX7_act 21 = .ok (.ifCond .eq 11, 3) := by decide +kernel
theorem dX7_act_24 : decode cX7_act 24 = .ok (.aload_n 0, 1) := by decide +kernel
theorem dX7_act_25 : decode cX7_act 25 = .ok (.iload_n 1, 1) := by decide +kernel
theorem dX7_act_26 : decode cX7_act 26 = .ok (.invokevirtual 342, 3) := by decide +kernel
theorem dX7_act_29 : decode cX7_act 29 = .ok (.ifCond .eq 5, 3) := by decide +kernel
theorem dX7_act_32 : decode cX7_act 32 = .ok (.iconst 0, 1) := by decide +kernel
theorem dX7_act_33 : decode cX7_act 33 = .ok (.ireturn, 1) := by decide +kernel
theorem dX7_act_34 : decode cX7_act 34 = .ok (.aload_n 0, 1) := by decide +kernel
theorem dX7_act_35 : decode cX7_act 35 = .ok (.aload_n 0, 1) := by decide +kernel
theorem dX7_act_36 : decode cX7_act 36 = .ok (.getfield 82, 3) := by decide +kernel
theorem dX7_act_39 : decode cX7_act 39 = .ok (.iload_n 1, 1) := by decide +kernel
theorem dX7_act_40 : decode cX7_act 40 = .ok (.iaload, 1) := by decide +kernel
theorem dX7_act_41 : decode cX7_act 41 = .ok (.putfield 354, 3) := by decide +kernel
theorem dX7_act_44 : decode cX7_act 44 = .ok (.aload_n 0, 1) := by decide +kernel
theorem dX7_act_45 : decode cX7_act 45 = .ok (.aload_n 0, 1) := by decide +kernel
theorem dX7_act_46 : decode cX7_act 46 = .ok (.getfield 29, 3) := by decide +kernel
theorem dX7_act_49 : decode cX7_act 49 = .ok (.aload_n 0, 1) := by decide +kernel
theorem dX7_act_50 : decode cX7_act 50 = .ok (.getfield 354, 3) := by decide +kernel
theorem dX7_act_53 : decode cX7_act 53 = .ok (.iaload, 1) := by decide +kernel
theorem dX7_act_54 : decode cX7_act 54 = .ok (.putfield 360, 3) := by decide +kernel
theorem dX7_act_57 : decode cX7_act 57 = .ok (.aload_n 0, 1) := by decide +kernel
theorem dX7_act_58 : decode cX7_act 58 = .ok (.aload_n 0, 1) := by decide +kernel
theorem dX7_act_59 : decode cX7_act 59 = .ok (.getfield 32, 3) := by decide +kernel
theorem dX7_act_62 : decode cX7_act 62 = .ok (.aload_n 0, 1) := by decide +kernel
theorem dX7_act_63 : decode cX7_act 63 = .ok (.getfield 354, 3) := by decide +kernel
theorem dX7_act_66 : decode cX7_act 66 = .ok (.iaload, 1) := by decide +kernel
theorem dX7_act_67 : decode cX7_act 67 = .ok (.putfield 366, 3) := by decide +kernel
theorem dX7_act_70 : decode cX7_act 70 = .ok (.aload_n 0, 1) := by decide +kernel
theorem dX7_act_71 : decode cX7_act 71 = .ok (.iconst 0, 1) := by decide +kernel
theorem dX7_act_72 : decode cX7_act 72 = .ok (.putfield 378, 3) := by decide +kernel
theorem dX7_act_75 : decode cX7_act 75 = .ok (.iload_n 2, 1) := by decide +kernel
theorem dX7_act_76 : decode cX7_act 76 = .ok (.ifCond .ne 11, 3) := by decide +kernel
theorem dX7_act_79 : decode cX7_act 79 = .ok (.aload_n 0, 1) := by decide +kernel
theorem dX7_act_80 : decode cX7_act 80 = .ok (.iload_n 3, 1) := by decide +kernel
theorem dX7_act_81 : decode cX7_act 81 = .ok (.invokevirtual 369, 3) := by decide +kernel
theorem dX7_act_84 : decode cX7_act 84 = .ok (.goto 34, 3) := by decide +kernel
theorem dX7_act_87 : decode cX7_act 87 = .ok (.iload_n 2, 1) := by decide +kernel
theorem dX7_act_88 : decode cX7_act 88 = .ok (.iconst 1, 1) := by decide +kernel
theorem dX7_act_89 : decode cX7_act 89 = .ok (.if_icmp .ne 11, 3) := by decide +kernel
theorem dX7_act_92 : decode cX7_act 92 = .ok (.aload_n 0, 1) := by decide +kernel
theorem dX7_act_93 : decode cX7_act 93 = .ok (.iload_n 3, 1) := by decide +kernel
theorem dX7_act_94 : decode cX7_act 94 = .ok (.invokevirtual 382, 3) := by decide +kernel
theorem dX7_act_97 : decode cX7_act 97 = .ok (.goto 21, 3) := by decide +kernel
theorem dX7_act_100 : decode cX7_act 100 = .ok (.iload_n 2, 1) := by decide +kernel
theorem dX7_act_101 : decode cX7_act 101 = .ok (.iconst 2, 1) := by decide +kernel
theorem dX7_act_102 : decode cX7_act 102 = .ok (.if_icmp .ne 11, 3) := by decide +kernel
theorem dX7_act_105 : decode cX7_act 105 = .ok (.aload_n 0, 1) := by decide +kernel
theorem dX7_act_106 : decode cX7_act 106 = .ok (.iload_n 3, 1) := by decide +kernel
theorem dX7_act_107 : decode cX7_act 107 = .ok (.invokevirtual 385, 3) := by decide +kernel
theorem dX7_act_110 : decode cX7_act 110 = .ok (.goto 8, 3) := by decide +kernel
theorem dX7_act_113 : decode cX7_act 113 = .ok (.aload_n 0, 1) := by decide +kernel
theorem dX7_act_114 : decode cX7_act 114 = .ok (.iload_n 3, 1) := by decide +kernel
theorem dX7_act_115 : decode cX7_act 115 = .ok (.invokevirtual 394, 3) := by decide +kernel
theorem dX7_act_118 : decode cX7_act 118 = .ok (.istore 4, 2) := by decide +kernel
theorem dX7_act_120 : decode cX7_act 120 = .ok (.aload_n 0, 1) := by decide +kernel
theorem dX7_act_121 : decode cX7_act 121 = .ok (.getfield 378, 3) := by decide +kernel
theorem dX7_act_124 : decode cX7_act 124 = .ok (.ifCond .eq 8, 3) := by decide +kernel
theorem dX7_act_127 : decode cX7_act 127 = .ok (.bipush (-15), 2) := by decide +kernel
theorem dX7_act_129 : decode cX7_act 129 = .ok (.goto 5, 3) := by decide +kernel
theorem dX7_act_132 : decode cX7_act 132 = .ok (.iload 4, 2) := by decide +kernel
theorem dX7_act_134 : decode cX7_act 134 = .ok (.ireturn, 1) := by decide +kernel
theorem dX7_trace_0 : decode cX7_trace 0 = .ok (.iload_n 1, 1) := by decide +kernel
theorem dX7_trace_1 : decode cX7_trace 1 = .ok (.i2l, 1) := by decide +kernel
theorem dX7_trace_2 : decode cX7_trace 2 = .ok (.lconst 0, 1) := by decide +kernel
theorem dX7_trace_3 : decode cX7_trace 3 = .ok (.aload_n 0, 1) := by decide +kernel
theorem dX7_trace_4 : decode cX7_trace 4 = .ok (.getfield 348, 3) := by decide +kernel
theorem dX7_trace_7 : decode cX7_trace 7 = .ok (.iconst 1, 1) := by decide +kernel
theorem dX7_trace_8 : decode cX7_trace 8 = .ok (.isub, 1) := by decide +kernel
theorem dX7_trace_9 : decode cX7_trace 9 = .ok (.i2l, 1) := by decide +kernel
theorem dX7_trace_10 : decode cX7_trace 10 = .ok (.invokestatic 99, 3) := by decide +kernel
theorem dX7_trace_13 : decode cX7_trace 13 = .ok (.ifCond .eq 12, 3) := by decide +kernel
theorem dX7_trace_16 : decode cX7_trace 16 = .ok (.aload_n 0, 1) := by decide +kernel
theorem dX7_trace_17 : decode cX7_trace 17 = .ok (.getfield 88, 3) := by decide +kernel
theorem dX7_trace_20 : decode cX7_trace 20 = .ok (.iload_n 1, 1) := by decide +kernel
theorem dX7_trace_21 : decode cX7_trace 21 = .ok (.iaload, 1) := by decide +kernel
theorem dX7_trace_22 : decode cX7_trace 22 = .ok (.goto 5, 3) := by decide +kernel
theorem dX7_trace_25 : decode cX7_trace 25 = .ok (.bipush (-3), 2) := by decide +kernel
theorem dX7_trace_27 : decode cX7_trace 27 = .ok (.ireturn, 1) := by decide +kernel
theorem dX7_fitting_0 : decode cX7_fitting 0 = .ok (.iconst 0, 1) := by decide +kernel
theorem dX7_fitting_1 : decode cX7_fitting 1 = .ok (.istore_n 1, 1) := by decide +kernel
theorem dX7_fitting_2 : decode cX7_fitting 2 = .ok (.iconst 0, 1) := by decide +kernel
theorem dX7_fitting_3 : decode cX7_fitting 3 = .ok (.istore_n 2, 1) := by decide +kernel
theorem dX7_fitting_4 : decode cX7_fitting 4 = .ok (.iload_n 2, 1) := by decide +kernel
theorem dX7_fitting_5 : decode cX7_fitting 5 = .ok (.aload_n 0, 1) := by decide +kernel
theorem dX7_fitting_6 : decode cX7_fitting 6 = .ok (.getfield 195, 3) := by decide +kernel
theorem dX7_fitting_9 : decode cX7_fitting 9 = .ok (.if_icmp .ge 32, 3) := by decide +kernel
theorem dX7_fitting_12 : decode cX7_fitting 12 = .ok (.iload_n 1, 1) := by decide +kernel
theorem dX7_fitting_13 : decode cX7_fitting 13 = .ok (.aload_n 0, 1) := by decide +kernel
theorem dX7_fitting_14 : decode cX7_fitting 14 = .ok (.aload_n 0, 1) := by decide +kernel
theorem dX7_fitting_15 : decode cX7_fitting 15 = .ok (.getfield 29, 3) := by decide +kernel
theorem dX7_fitting_18 : decode cX7_fitting 18 = .ok (.iload_n 2, 1) := by decide +kernel
theorem dX7_fitting_19 : decode cX7_fitting 19 = .ok (.iaload, 1) := by decide +kernel
theorem dX7_fitting_20 : decode cX7_fitting 20 = .ok (.invokevirtual 259, 3) := by decide +kernel
theorem dX7_fitting_23 : decode cX7_fitting 23 = .ok (.ifCond .eq 9, 3) := by decide +kernel
theorem dX7_fitting_26 : decode cX7_fitting 26 = .ok (.iconst 1, 1) := by decide +kernel
theorem dX7_fitting_27 : decode cX7_fitting 27 = .ok (.iload_n 2, 1) := by decide +kernel
theorem dX7_fitting_28 : decode cX7_fitting 28 = .ok (.ishl, 1) := by decide +kernel
theorem dX7_fitting_29 : decode cX7_fitting 29 = .ok (.goto 4, 3) := by decide +kernel
theorem dX7_fitting_32 : decode cX7_fitting 32 = .ok (.iconst 0, 1) := by decide +kernel
theorem dX7_fitting_33 : decode cX7_fitting 33 = .ok (.ior, 1) := by decide +kernel
theorem dX7_fitting_34 : decode cX7_fitting 34 = .ok (.istore_n 1, 1) := by decide +kernel
theorem dX7_fitting_35 : decode cX7_fitting 35 = .ok (.iinc 2 1, 3) := by decide +kernel
theorem dX7_fitting_38 : decode cX7_fitting 38 = .ok (.goto (-34), 3) := by decide +kernel
theorem dX7_fitting_41 : decode cX7_fitting 41 = .ok (.iload_n 1, 1) := by decide +kernel
theorem dX7_fitting_42 : decode cX7_fitting 42 = .ok (.ireturn, 1) := by decide +kernel
theorem dX7_splitting_0 : decode cX7_splitting 0 = .ok (.iconst 0, 1) := by decide +kernel
theorem dX7_splitting_1 : decode cX7_splitting 1 = .ok (.istore_n 1, 1) := by decide +kernel
theorem dX7_splitting_2 : decode cX7_splitting 2 = .ok (.iconst 1, 1) := by decide +kernel
theorem dX7_splitting_3 : decode cX7_splitting 3 = .ok (.istore_n 2, 1) := by decide +kernel
theorem dX7_splitting_4 : decode cX7_splitting 4 = .ok (.iload_n 2, 1) := by decide +kernel
theorem dX7_splitting_5 : decode cX7_splitting 5 = .ok (.aload_n 0, 1) := by decide +kernel
theorem dX7_splitting_6 : decode cX7_splitting 6 = .ok (.getfield 19, 3) := by decide +kernel
theorem dX7_splitting_9 : decode cX7_splitting 9 = .ok (.if_icmp .ge 27, 3) := by decide +kernel
theorem dX7_splitting_12 : decode cX7_splitting 12 = .ok (.iload_n 1, 1) := by decide +kernel
theorem dX7_splitting_13 : decode cX7_splitting 13 = .ok (.aload_n 0, 1) := by decide +kernel
theorem dX7_splitting_14 : decode cX7_splitting 14 = .ok (.iload_n 2, 1) := by decide +kernel
theorem dX7_splitting_15 : decode cX7_splitting 15 = .ok (.invokevirtual 300, 3) := by decide +kernel
theorem dX7_splitting_18 : decode cX7_splitting 18 = .ok (.ifCond .eq 9, 3) := by decide +kernel
theorem dX7_splitting_21 : decode cX7_splitting 21 = .ok (.iconst 1, 1) := by decide +kernel
theorem dX7_splitting_22 : decode cX7_splitting 22 = .ok (.iload_n 2, 1) := by decide +kernel
theorem dX7_splitting_23 : decode cX7_splitting 23 = .ok (.ishl, 1) := by decide +kernel
theorem dX7_splitting_24 : decode cX7_splitting 24 = .ok (.goto 4, 3) := by decide +kernel
theorem dX7_splitting_27 : decode cX7_splitting 27 = .ok (.iconst 0, 1) := by decide +kernel
theorem dX7_splitting_28 : decode cX7_splitting 28 = .ok (.ior, 1) := by decide +kernel
theorem dX7_splitting_29 : decode cX7_splitting 29 = .ok (.istore_n 1, 1) := by decide +kernel
theorem dX7_splitting_30 : decode cX7_splitting 30 = .ok (.iinc 2 1, 3) := by decide +kernel
theorem dX7_splitting_33 : decode cX7_splitting 33 = .ok (.goto (-29), 3) := by decide +kernel
theorem dX7_splitting_36 : decode cX7_splitting 36 = .ok (.iload_n 1, 1) := by decide +kernel
theorem dX7_splitting_37 : decode cX7_splitting 37 = .ok (.ireturn, 1) := by decide +kernel
theorem dX7_many_0 : decode cX7_many 0 = .ok (.iload_n 1, 1) := by decide +kernel
theorem dX7_many_1 : decode cX7_many 1 = .ok (.tableswitch 78 0 6 #[43, 48, 53, 58, 63, 68, 73], 43) := by decide +kernel
theorem dX7_many_44 : decode cX7_many 44 = .ok (.aload_n 0, 1) := by decide +kernel
theorem dX7_many_45 : decode cX7_many 45 = .ok (.getfield 19, 3) := by decide +kernel
theorem dX7_many_48 : decode cX7_many 48 = .ok (.ireturn, 1) := by decide +kernel
theorem dX7_many_49 : decode cX7_many 49 = .ok (.aload_n 0, 1) := by decide +kernel
theorem dX7_many_50 : decode cX7_many 50 = .ok (.getfield 23, 3) := by decide +kernel
theorem dX7_many_53 : decode cX7_many 53 = .ok (.ireturn, 1) := by decide +kernel
theorem dX7_many_54 : decode cX7_many 54 = .ok (.aload_n 0, 1) := by decide +kernel
theorem dX7_many_55 : decode cX7_many 55 = .ok (.getfield 195, 3) := by decide +kernel
theorem dX7_many_58 : decode cX7_many 58 = .ok (.ireturn, 1) := by decide +kernel
theorem dX7_many_59 : decode cX7_many 59 = .ok (.aload_n 0, 1) := by decide +kernel
theorem dX7_many_60 : decode cX7_many 60 = .ok (.getfield 151, 3) := by decide +kernel
theorem dX7_many_63 : decode cX7_many 63 = .ok (.ireturn, 1) := by decide +kernel
theorem dX7_many_64 : decode cX7_many 64 = .ok (.aload_n 0, 1) := by decide +kernel
theorem dX7_many_65 : decode cX7_many 65 = .ok (.getfield 348, 3) := by decide +kernel
theorem dX7_many_68 : decode cX7_many 68 = .ok (.ireturn, 1) := by decide +kernel
theorem dX7_many_69 : decode cX7_many 69 = .ok (.aload_n 0, 1) := by decide +kernel
theorem dX7_many_70 : decode cX7_many 70 = .ok (.invokevirtual 397, 3) := by decide +kernel
theorem dX7_many_73 : decode cX7_many 73 = .ok (.ireturn, 1) := by decide +kernel
theorem dX7_many_74 : decode cX7_many 74 = .ok (.aload_n 0, 1) := by decide +kernel
theorem dX7_many_75 : decode cX7_many 75 = .ok (.invokevirtual 400, 3) := by decide +kernel
theorem dX7_many_78 : decode cX7_many 78 = .ok (.ireturn, 1) := by decide +kernel
theorem dX7_many_79 : decode cX7_many 79 = .ok (.iconst (-1), 1) := by decide +kernel
theorem dX7_many_80 : decode cX7_many 80 = .ok (.ireturn, 1) := by decide +kernel
theorem dX7_keep_0 : decode cX7_keep 0 = .ok (.aload_n 0, 1) := by decide +kernel
theorem dX7_keep_1 : decode cX7_keep 1 = .ok (.aload_n 0, 1) := by decide +kernel
theorem dX7_keep_2 : decode cX7_keep 2 = .ok (.getfield 7, 3) := by decide +kernel
theorem dX7_keep_5 : decode cX7_keep 5 = .ok (.aload_n 0, 1) := by decide +kernel
theorem dX7_keep_6 : decode cX7_keep 6 = .ok (.getfield 13, 3) := by decide +kernel
theorem dX7_keep_9 : decode cX7_keep 9 = .ok (.invokevirtual 186, 3) := by decide +kernel
theorem dX7_keep_12 : decode cX7_keep 12 = .ok (.aload_n 0, 1) := by decide +kernel
theorem dX7_keep_13 : decode cX7_keep 13 = .ok (.aload_n 0, 1) := by decide +kernel
theorem dX7_keep_14 : decode cX7_keep 14 = .ok (.getfield 19, 3) := by decide +kernel
theorem dX7_keep_17 : decode cX7_keep 17 = .ok (.putfield 403, 3) := by decide +kernel
theorem dX7_keep_20 : decode cX7_keep 20 = .ok (.aload_n 0, 1) := by decide +kernel
theorem dX7_keep_21 : decode cX7_keep 21 = .ok (.aload_n 0, 1) := by decide +kernel
theorem dX7_keep_22 : decode cX7_keep 22 = .ok (.getfield 23, 3) := by decide +kernel
theorem dX7_keep_25 : decode cX7_keep 25 = .ok (.putfield 406, 3) := by decide +kernel
theorem dX7_keep_28 : decode cX7_keep 28 = .ok (.aload_n 0, 1) := by decide +kernel
theorem dX7_keep_29 : decode cX7_keep 29 = .ok (.aload_n 0, 1) := by decide +kernel
theorem dX7_keep_30 : decode cX7_keep 30 = .ok (.getfield 26, 3) := by decide +kernel
theorem dX7_keep_33 : decode cX7_keep 33 = .ok (.putfield 409, 3) := by decide +kernel
theorem dX7_keep_36 : decode cX7_keep 36 = .ok (.aload_n 0, 1) := by decide +kernel
theorem dX7_keep_37 : decode cX7_keep 37 = .ok (.aload_n 0, 1) := by decide +kernel
theorem dX7_keep_38 : decode cX7_keep 38 = .ok (.getfield 195, 3) := by decide +kernel
theorem dX7_keep_41 : decode cX7_keep 41 = .ok (.putfield 412, 3) := by decide +kernel
theorem dX7_keep_44 : decode cX7_keep 44 = .ok (.iconst 0, 1) := by decide +kernel
theorem dX7_keep_45 : decode cX7_keep 45 = .ok (.istore_n 1, 1) := by decide +kernel
theorem dX7_keep_46 : decode cX7_keep 46 = .ok (.iload_n 1, 1) := by decide +kernel
theorem dX7_keep_47 : decode cX7_keep 47 = .ok (.bipush 6, 2) := by decide +kernel
theorem dX7_keep_49 : decode cX7_keep 49 = .ok (.if_icmp .ge 33, 3) := by decide +kernel
theorem dX7_keep_52 : decode cX7_keep 52 = .ok (.aload_n 0, 1) := by decide +kernel
theorem dX7_keep_53 : decode cX7_keep 53 = .ok (.getfield 35, 3) := by decide +kernel
theorem dX7_keep_56 : decode cX7_keep 56 = .ok (.iload_n 1, 1) := by decide +kernel
theorem dX7_keep_57 : decode cX7_keep 57 = .ok (.aload_n 0, 1) := by decide +kernel
theorem dX7_keep_58 : decode cX7_keep 58 = .ok (.getfield 29, 3) := by decide +kernel
theorem dX7_keep_61 : decode cX7_keep 61 = .ok (.iload_n 1, 1) := by decide +kernel
theorem dX7_keep_62 : decode cX7_keep 62 = .ok (.iaload, 1) := by decide +kernel
theorem dX7_keep_63 : decode cX7_keep 63 = .ok (.iastore, 1) := by decide +kernel
theorem dX7_keep_64 : decode cX7_keep 64 = .ok (.aload_n 0, 1) := by decide +kernel
theorem dX7_keep_65 : decode cX7_keep 65 = .ok (.getfield 38, 3) := by decide +kernel
theorem dX7_keep_68 : decode cX7_keep 68 = .ok (.iload_n 1, 1) := by decide +kernel
theorem dX7_keep_69 : decode cX7_keep 69 = .ok (.aload_n 0, 1) := by decide +kernel
theorem dX7_keep_70 : decode cX7_keep 70 = .ok (.getfield 32, 3) := by decide +kernel
theorem dX7_keep_73 : decode cX7_keep 73 = .ok (.iload_n 1, 1) := by decide +kernel
theorem dX7_keep_74 : decode cX7_keep 74 = .ok (.iaload, 1) := by decide +kernel
theorem dX7_keep_75 : decode cX7_keep 75 = .ok (.iastore, 1) := by decide +kernel
theorem dX7_keep_76 : decode cX7_keep 76 = .ok (.iinc 1 1, 3) := by decide +kernel
theorem dX7_keep_79 : decode cX7_keep 79 = .ok (.goto (-33), 3) := by decide +kernel
theorem dX7_keep_82 : decode cX7_keep 82 = .ok (.aload_n 0, 1) := by decide +kernel
theorem dX7_keep_83 : decode cX7_keep 83 = .ok (.iconst 1, 1) := by decide +kernel
theorem dX7_keep_84 : decode cX7_keep 84 = .ok (.putfield 415, 3) := by decide +kernel
theorem dX7_keep_87 : decode cX7_keep 87 = .ok (.iconst 1, 1) := by decide +kernel
theorem dX7_keep_88 : decode cX7_keep 88 = .ok (.ireturn, 1) := by decide +kernel
theorem dX7_again_0 : decode cX7_again 0 = .ok (.aload_n 0, 1) := by decide +kernel
theorem dX7_again_1 : decode cX7_again 1 = .ok (.getfield 415, 3) := by decide +kernel
theorem dX7_again_4 : decode cX7_again 4 = .ok (.ifCond .ne 6, 3) := by decide +kernel
theorem dX7_again_7 : decode cX7_again 7 = .ok (.bipush (-3), 2) := by decide +kernel
theorem dX7_again_9 : decode cX7_again 9 = .ok (.ireturn, 1) := by decide +kernel
theorem dX7_again_10 : decode cX7_again 10 = .ok (.aload_n 0, 1) := by decide +kernel
theorem dX7_again_11 : decode cX7_again 11 = .ok (.aload_n 0, 1) := by decide +kernel
theorem dX7_again_12 : decode cX7_again 12 = .ok (.getfield 13, 3) := by decide +kernel
theorem dX7_again_15 : decode cX7_again 15 = .ok (.aload_n 0, 1) := by decide +kernel
theorem dX7_again_16 : decode cX7_again 16 = .ok (.getfield 7, 3) := by decide +kernel
theorem dX7_again_19 : decode cX7_again 19 = .ok (.invokevirtual 186, 3) := by decide +kernel
theorem dX7_again_22 : decode cX7_again 22 = .ok (.aload_n 0, 1) := by decide +kernel
theorem dX7_again_23 : decode cX7_again 23 = .ok (.aload_n 0, 1) := by decide +kernel
theorem dX7_again_24 : decode cX7_again 24 = .ok (.getfield 403, 3) := by decide +kernel
theorem dX7_again_27 : decode cX7_again 27 = .ok (.putfield 19, 3) := by decide +kernel
theorem dX7_again_30 : decode cX7_again 30 = .ok (.aload_n 0, 1) := by decide +kernel
theorem dX7_again_31 : decode cX7_again 31 = .ok (.aload_n 0, 1) := by decide +kernel
theorem dX7_again_32 : decode cX7_again 32 = .ok (.getfield 406, 3) := by decide +kernel
theorem dX7_again_35 : decode cX7_again 35 = .ok (.putfield 23, 3) := by decide +kernel
theorem dX7_again_38 : decode cX7_again 38 = .ok (.aload_n 0, 1) := by decide +kernel
theorem dX7_again_39 : decode cX7_again 39 = .ok (.aload_n 0, 1) := by decide +kernel
theorem dX7_again_40 : decode cX7_again 40 = .ok (.getfield 409, 3) := by decide +kernel
theorem dX7_again_43 : decode cX7_again 43 = .ok (.putfield 26, 3) := by decide +kernel
theorem dX7_again_46 : decode cX7_again 46 = .ok (.aload_n 0, 1) := by decide +kernel
theorem dX7_again_47 : decode cX7_again 47 = .ok (.aload_n 0, 1) := by decide +kernel
theorem dX7_again_48 : decode cX7_again 48 = .ok (.getfield 412, 3) := by decide +kernel
theorem dX7_again_51 : decode cX7_again 51 = .ok (.putfield 195, 3) := by decide +kernel
theorem dX7_again_54 : decode cX7_again 54 = .ok (.iconst 0, 1) := by decide +kernel
theorem dX7_again_55 : decode cX7_again 55 = .ok (.istore_n 1, 1) := by decide +kernel
theorem dX7_again_56 : decode cX7_again 56 = .ok (.iload_n 1, 1) := by decide +kernel
theorem dX7_again_57 : decode cX7_again 57 = .ok (.bipush 6, 2) := by decide +kernel
theorem dX7_again_59 : decode cX7_again 59 = .ok (.if_icmp .ge 33, 3) := by decide +kernel
theorem dX7_again_62 : decode cX7_again 62 = .ok (.aload_n 0, 1) := by decide +kernel
theorem dX7_again_63 : decode cX7_again 63 = .ok (.getfield 29, 3) := by decide +kernel
theorem dX7_again_66 : decode cX7_again 66 = .ok (.iload_n 1, 1) := by decide +kernel
theorem dX7_again_67 : decode cX7_again 67 = .ok (.aload_n 0, 1) := by decide +kernel
theorem dX7_again_68 : decode cX7_again 68 = .ok (.getfield 35, 3) := by decide +kernel
theorem dX7_again_71 : decode cX7_again 71 = .ok (.iload_n 1, 1) := by decide +kernel
theorem dX7_again_72 : decode cX7_again 72 = .ok (.iaload, 1) := by decide +kernel
theorem dX7_again_73 : decode cX7_again 73 = .ok (.iastore, 1) := by decide +kernel
theorem dX7_again_74 : decode cX7_again 74 = .ok (.aload_n 0, 1) := by decide +kernel
theorem dX7_again_75 : decode cX7_again 75 = .ok (.getfield 32, 3) := by decide +kernel
theorem dX7_again_78 : decode cX7_again 78 = .ok (.iload_n 1, 1) := by decide +kernel
theorem dX7_again_79 : decode cX7_again 79 = .ok (.aload_n 0, 1) := by decide +kernel
theorem dX7_again_80 : decode cX7_again 80 = .ok (.getfield 38, 3) := by decide +kernel
theorem dX7_again_83 : decode cX7_again 83 = .ok (.iload_n 1, 1) := by decide +kernel
theorem dX7_again_84 : decode cX7_again 84 = .ok (.iaload, 1) := by decide +kernel
theorem dX7_again_85 : decode cX7_again 85 = .ok (.iastore, 1) := by decide +kernel
theorem dX7_again_86 : decode cX7_again 86 = .ok (.iinc 1 1, 3) := by decide +kernel
theorem dX7_again_89 : decode cX7_again 89 = .ok (.goto (-33), 3) := by decide +kernel
theorem dX7_again_92 : decode cX7_again 92 = .ok (.aload_n 0, 1) := by decide +kernel
theorem dX7_again_93 : decode cX7_again 93 = .ok (.getfield 195, 3) := by decide +kernel
theorem dX7_again_96 : decode cX7_again 96 = .ok (.ireturn, 1) := by decide +kernel
