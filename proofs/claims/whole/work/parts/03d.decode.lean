theorem dX11_lies_0 : decode cX11_lies 0 = .ok (.iload_n 0, 1) := by decide +kernel
theorem dX11_lies_1 : decode cX11_lies 1 = .ok (.iload_n 1, 1) := by decide +kernel
theorem dX11_lies_2 : decode cX11_lies 2 = .ok (.if_icmp .lt 12, 3) := by decide +kernel
theorem dX11_lies_5 : decode cX11_lies 5 = .ok (.iload_n 0, 1) := by decide +kernel
theorem dX11_lies_6 : decode cX11_lies 6 = .ok (.iload_n 2, 1) := by decide +kernel
theorem dX11_lies_7 : decode cX11_lies 7 = .ok (.if_icmp .gt 7, 3) := by decide +kernel
theorem dX11_lies_10 : decode cX11_lies 10 = .ok (.iconst 1, 1) := by decide +kernel
theorem dX11_lies_11 : decode cX11_lies 11 = .ok (.goto 4, 3) := by decide +kernel
theorem dX11_lies_14 : decode cX11_lies 14 = .ok (.iconst 0, 1) := by decide +kernel
theorem dX11_lies_15 : decode cX11_lies 15 = .ok (.ireturn, 1) := by decide +kernel
theorem dX11_greater_0 : decode cX11_greater 0 = .ok (.iload_n 0, 1) := by decide +kernel
theorem dX11_greater_1 : decode cX11_greater 1 = .ok (.iload_n 1, 1) := by decide +kernel
theorem dX11_greater_2 : decode cX11_greater 2 = .ok (.if_icmp .le 7, 3) := by decide +kernel
theorem dX11_greater_5 : decode cX11_greater 5 = .ok (.iload_n 0, 1) := by decide +kernel
theorem dX11_greater_6 : decode cX11_greater 6 = .ok (.goto 4, 3) := by decide +kernel
theorem dX11_greater_9 : decode cX11_greater 9 = .ok (.iload_n 1, 1) := by decide +kernel
theorem dX11_greater_10 : decode cX11_greater 10 = .ok (.ireturn, 1) := by decide +kernel
theorem dX11_refuses_0 : decode cX11_refuses 0 = .ok (.aload_n 0, 1) := by decide +kernel
theorem dX11_refuses_1 : decode cX11_refuses 1 = .ok (.iload_n 1, 1) := by decide +kernel
theorem dX11_refuses_2 : decode cX11_refuses 2 = .ok (.putfield 3, 3) := by decide +kernel
theorem dX11_refuses_5 : decode cX11_refuses 5 = .ok (.aload_n 0, 1) := by decide +kernel
theorem dX11_refuses_6 : decode cX11_refuses 6 = .ok (.getfield 7, 3) := by decide +kernel
theorem dX11_refuses_9 : decode cX11_refuses 9 = .ok (.iload_n 1, 1) := by decide +kernel
theorem dX11_refuses_10 : decode cX11_refuses 10 = .ok (.ineg, 1) := by decide +kernel
theorem dX11_refuses_11 : decode cX11_refuses 11 = .ok (.dup2, 1) := by decide +kernel
theorem dX11_refuses_12 : decode cX11_refuses 12 = .ok (.iaload, 1) := by decide +kernel
theorem dX11_refuses_13 : decode cX11_refuses 13 = .ok (.iconst 1, 1) := by decide +kernel
theorem dX11_refuses_14 : decode cX11_refuses 14 = .ok (.iadd, 1) := by decide +kernel
theorem dX11_refuses_15 : decode cX11_refuses 15 = .ok (.iastore, 1) := by decide +kernel
theorem dX11_refuses_16 : decode cX11_refuses 16 = .ok (.iload_n 1, 1) := by decide +kernel
theorem dX11_refuses_17 : decode cX11_refuses 17 = .ok (.ireturn, 1) := by decide +kernel
theorem dX11_good_0 : decode cX11_good 0 = .ok (.aload_n 0, 1) := by decide +kernel
theorem dX11_good_1 : decode cX11_good 1 = .ok (.iconst 0, 1) := by decide +kernel
theorem dX11_good_2 : decode cX11_good 2 = .ok (.putfield 3, 3) := by decide +kernel
theorem dX11_good_5 : decode cX11_good 5 = .ok (.iload_n 1, 1) := by decide +kernel
theorem dX11_good_6 : decode cX11_good 6 = .ok (.ireturn, 1) := by decide +kernel
theorem dX11_settled_0 : decode cX11_settled 0 = .ok (.aload_n 0, 1) := by decide +kernel
theorem dX11_settled_1 : decode cX11_settled 1 = .ok (.iconst 0, 1) := by decide +kernel
theorem dX11_settled_2 : decode cX11_settled 2 = .ok (.putfield 11, 3) := by decide +kernel
theorem dX11_settled_5 : decode cX11_settled 5 = .ok (.aload_n 0, 1) := by decide +kernel
theorem dX11_settled_6 : decode cX11_settled 6 = .ok (.iload_n 1, 1) := by decide +kernel
theorem dX11_settled_7 : decode cX11_settled 7 = .ok (.invokevirtual 14, 3) := by decide +kernel
theorem dX11_settled_10 : decode cX11_settled 10 = .ok (.ireturn, 1) := by decide +kernel
theorem dX11_isIn_0 : decode cX11_isIn 0 = .ok (.iload_n 0, 1) := by decide +kernel
theorem dX11_isIn_1 : decode cX11_isIn 1 = .ok (.iload_n 1, 1) := by decide +kernel
theorem dX11_isIn_2 : decode cX11_isIn 2 = .ok (.ishr, 1) := by decide +kernel
theorem dX11_isIn_3 : decode cX11_isIn 3 = .ok (.iconst 1, 1) := by decide +kernel
theorem dX11_isIn_4 : decode cX11_isIn 4 = .ok (.iand, 1) := by decide +kernel
theorem dX11_isIn_5 : decode cX11_isIn 5 = .ok (.iconst 1, 1) := by decide +kernel
theorem dX11_isIn_6 : decode cX11_isIn 6 = .ok (.if_icmp .ne 7, 3) := by decide +kernel
theorem dX11_isIn_9 : decode cX11_isIn 9 = .ok (.iconst 1, 1) := by decide +kernel
theorem dX11_isIn_10 : decode cX11_isIn 10 = .ok (.goto 4, 3) := by decide +kernel
theorem dX11_isIn_13 : decode cX11_isIn 13 = .ok (.iconst 0, 1) := by decide +kernel
theorem dX11_isIn_14 : decode cX11_isIn 14 = .ok (.ireturn, 1) := by decide +kernel
theorem dX11_ones_0 : decode cX11_ones 0 = .ok (.iconst 0, 1) := by decide +kernel
theorem dX11_ones_1 : decode cX11_ones 1 = .ok (.istore_n 1, 1) := by decide +kernel
theorem dX11_ones_2 : decode cX11_ones 2 = .ok (.iconst 0, 1) := by decide +kernel
theorem dX11_ones_3 : decode cX11_ones 3 = .ok (.istore_n 2, 1) := by decide +kernel
theorem dX11_ones_4 : decode cX11_ones 4 = .ok (.iload_n 2, 1) := by decide +kernel
theorem dX11_ones_5 : decode cX11_ones 5 = .ok (.bipush 12, 2) := by decide +kernel
theorem dX11_ones_7 : decode cX11_ones 7 = .ok (.if_icmp .ge 17, 3) := by decide +kernel
theorem dX11_ones_10 : decode cX11_ones 10 = .ok (.iload_n 1, 1) := by decide +kernel
theorem dX11_ones_11 : decode cX11_ones 11 = .ok (.iload_n 0, 1) := by decide +kernel
theorem dX11_ones_12 : decode cX11_ones 12 = .ok (.iload_n 2, 1) := by decide +kernel
theorem dX11_ones_13 : decode cX11_ones 13 = .ok (.ishr, 1) := by decide +kernel
theorem dX11_ones_14 : decode cX11_ones 14 = .ok (.iconst 1, 1) := by decide +kernel
theorem dX11_ones_15 : decode cX11_ones 15 = .ok (.iand, 1) := by decide +kernel
theorem dX11_ones_16 : decode cX11_ones 16 = .ok (.iadd, 1) := by decide +kernel
theorem dX11_ones_17 : decode cX11_ones 17 = .ok (.istore_n 1, 1) := by decide +kernel
theorem dX11_ones_18 : decode cX11_ones 18 = .ok (.iinc 2 1, 3) := by decide +kernel
theorem dX11_ones_21 : decode cX11_ones 21 = .ok (.goto (-17), 3) := by decide +kernel
theorem dX11_ones_24 : decode cX11_ones 24 = .ok (.iload_n 1, 1) := by decide +kernel
theorem dX11_ones_25 : decode cX11_ones 25 = .ok (.ireturn, 1) := by decide +kernel
theorem dX11_isBit_0 : decode cX11_isBit 0 = .ok (.iload_n 0, 1) := by decide +kernel
theorem dX11_isBit_1 : decode cX11_isBit 1 = .ok (.iconst 0, 1) := by decide +kernel
theorem dX11_isBit_2 : decode cX11_isBit 2 = .ok (.iconst 1, 1) := by decide +kernel
theorem dX11_isBit_3 : decode cX11_isBit 3 = .ok (.invokestatic 18, 3) := by decide +kernel
theorem dX11_isBit_6 : decode cX11_isBit 6 = .ok (.ireturn, 1) := by decide +kernel
theorem dX11_init_0 : decode cX11_init 0 = .ok (.aload_n 0, 1) := by decide +kernel
theorem dX11_init_1 : decode cX11_init 1 = .ok (.invokespecial 22, 3) := by decide +kernel
theorem dX11_init_4 : decode cX11_init 4 = .ok (.aload_n 0, 1) := by decide +kernel
theorem dX11_init_5 : decode cX11_init 5 = .ok (.bipush 7, 2) := by decide +kernel
theorem dX11_init_7 : decode cX11_init 7 = .ok (.newarray .int, 2) := by decide +kernel
theorem dX11_init_9 : decode cX11_init 9 = .ok (.putfield 7, 3) := by decide +kernel
theorem dX11_init_12 : decode cX11_init 12 = .ok (.aload_n 0, 1) := by decide +kernel
theorem dX11_init_13 : decode cX11_init 13 = .ok (.sipush 5656, 3) := by decide +kernel
theorem dX11_init_16 : decode cX11_init 16 = .ok (.newarray .int, 2) := by decide +kernel
theorem dX11_init_18 : decode cX11_init 18 = .ok (.putfield 28, 3) := by decide +kernel
theorem dX11_init_21 : decode cX11_init 21 = .ok (.aload_n 0, 1) := by decide +kernel
theorem dX11_init_22 : decode cX11_init 22 = .ok (.sipush 11312, 3) := by decide +kernel
theorem dX11_init_25 : decode cX11_init 25 = .ok (.newarray .int, 2) := by decide +kernel
theorem dX11_init_27 : decode cX11_init 27 = .ok (.putfield 31, 3) := by decide +kernel
theorem dX11_init_30 : decode cX11_init 30 = .ok (.aload_n 0, 1) := by decide +kernel
theorem dX11_init_31 : decode cX11_init 31 = .ok (.iconst 2, 1) := by decide +kernel
theorem dX11_init_32 : decode cX11_init 32 = .ok (.newarray .boolean, 2) := by decide +kernel
theorem dX11_init_34 : decode cX11_init 34 = .ok (.putfield 34, 3) := by decide +kernel
theorem dX11_init_37 : decode cX11_init 37 = .ok (.aload_n 0, 1) := by decide +kernel
theorem dX11_init_38 : decode cX11_init 38 = .ok (.bipush 38, 2) := by decide +kernel
theorem dX11_init_40 : decode cX11_init 40 = .ok (.newarray .int, 2) := by decide +kernel
theorem dX11_init_42 : decode cX11_init 42 = .ok (.putfield 38, 3) := by decide +kernel
theorem dX11_init_45 : decode cX11_init 45 = .ok (.aload_n 0, 1) := by decide +kernel
theorem dX11_init_46 : decode cX11_init 46 = .ok (.bipush 120, 2) := by decide +kernel
theorem dX11_init_48 : decode cX11_init 48 = .ok (.newarray .byte, 2) := by decide +kernel
theorem dX11_init_50 : decode cX11_init 50 = .ok (.dup, 1) := by decide +kernel
theorem dX11_init_51 : decode cX11_init 51 = .ok (.iconst 0, 1) := by decide +kernel
theorem dX11_init_52 : decode cX11_init 52 = .ok (.bipush 115, 2) := by decide +kernel
theorem dX11_init_54 : decode cX11_init 54 = .ok (.bastore, 1) := by decide +kernel
theorem dX11_init_55 : decode cX11_init 55 = .ok (.dup, 1) := by decide +kernel
theorem dX11_init_56 : decode cX11_init 56 = .ok (.iconst 1, 1) := by decide +kernel
theorem dX11_init_57 : decode cX11_init 57 = .ok (.bipush 111, 2) := by decide +kernel
theorem dX11_init_59 : decode cX11_init 59 = .ok (.bastore, 1) := by decide +kernel
theorem dX11_init_60 : decode cX11_init 60 = .ok (.dup, 1) := by decide +kernel
theorem dX11_init_61 : decode cX11_init 61 = .ok (.iconst 2, 1) := by decide +kernel
theorem dX11_init_62 : decode cX11_init 62 = .ok (.bipush 117, 2) := by decide +kernel
theorem dX11_init_64 : decode cX11_init 64 = .ok (.bastore, 1) := by decide +kernel
theorem dX11_init_65 : decode cX11_init 65 = .ok (.dup, 1) := by decide +kernel
theorem dX11_init_66 : decode cX11_init 66 = .ok (.iconst 3, 1) := by decide +kernel
theorem dX11_init_67 : decode cX11_init 67 = .ok (.bipush 110, 2) := by decide +kernel
theorem dX11_init_69 : decode cX11_init 69 = .ok (.bastore, 1) := by decide +kernel
theorem dX11_init_70 : decode cX11_init 70 = .ok (.dup, 1) := by decide +kernel
theorem dX11_init_71 : decode cX11_init 71 = .ok (.iconst 4, 1) := by decide +kernel
theorem dX11_init_72 : decode cX11_init 72 = .ok (.bipush 100, 2) := by decide +kernel
theorem dX11_init_74 : decode cX11_init 74 = .ok (.bastore, 1) := by decide +kernel
theorem dX11_init_75 : decode cX11_init 75 = .ok (.dup, 1) := by decide +kernel
theorem dX11_init_76 : decode cX11_init 76 = .ok (.iconst 5, 1) := by decide +kernel
theorem dX11_init_77 : decode cX11_init 77 = .ok (.bipush 115, 2) := by decide +kernel
theorem dX11_init_79 : decode cX11_init 79 = .ok (.bastore, 1) := by decide +kernel
theorem dX11_init_80 : decode cX11_init 80 = .ok (.dup, 1) := by decide +kernel
theorem dX11_init_81 : decode cX11_init 81 = .ok (.bipush 6, 2) := by decide +kernel
theorem dX11_init_83 : decode cX11_init 83 = .ok (.bipush 32, 2) := by decide +kernel
theorem dX11_init_85 : decode cX11_init 85 = .ok (.bastore, 1) := by decide +kernel
theorem dX11_init_86 : decode cX11_init 86 = .ok (.dup, 1) := by decide +kernel
theorem dX11_init_87 : decode cX11_init 87 = .ok (.bipush 7, 2) := by decide +kernel
theorem dX11_init_89 : decode cX11_init 89 = .ok (.bipush 100, 2) := by decide +kernel
theorem dX11_init_91 : decode cX11_init 91 = .ok (.bastore, 1) := by decide +kernel
theorem dX11_init_92 : decode cX11_init 92 = .ok (.dup, 1) := by decide +kernel
theorem dX11_init_93 : decode cX11_init 93 = .ok (.bipush 8, 2) := by decide +kernel
theorem dX11_init_95 : decode cX11_init 95 = .ok (.bipush 114, 2) := by decide +kernel
theorem dX11_init_97 : decode cX11_init 97 = .ok (.bastore, 1) := by decide +kernel
theorem dX11_init_98 : decode cX11_init 98 = .ok (.dup, 1) := by decide +kernel
theorem dX11_init_99 : decode cX11_init 99 = .ok (.bipush 9, 2) := by decide +kernel
theorem dX11_init_101 : decode cX11_init 101 = .ok (.bipush 111, 2) := by decide +kernel
theorem dX11_init_103 : decode cX11_init 103 = .ok (.bastore, 1) := by decide +kernel
theorem dX11_init_104 : decode cX11_init 104 = .ok (.dup, 1) := by decide +kernel
theorem dX11_init_105 : decode cX11_init 105 = .ok (.bipush 10, 2) := by decide +kernel
theorem dX11_init_107 : decode cX11_init 107 = .ok (.bipush 112, 2) := by decide +kernel
theorem dX11_init_109 : decode cX11_init 109 = .ok (.bastore, 1) := by decide +kernel
theorem dX11_init_110 : decode cX11_init 110 = .ok (.dup, 1) := by decide +kernel
theorem dX11_init_111 : decode cX11_init 111 = .ok (.bipush 11, 2) := by decide +kernel
theorem dX11_init_113 : decode cX11_init 113 = .ok (.bipush 115, 2) := by decide +kernel
theorem dX11_init_115 : decode cX11_init 115 = .ok (.bastore, 1) := by decide +kernel
theorem dX11_init_116 : decode cX11_init 116 = .ok (.dup, 1) := by decide +kernel
theorem dX11_init_117 : decode cX11_init 117 = .ok (.bipush 12, 2) := by decide +kernel
theorem dX11_init_119 : decode cX11_init 119 = .ok (.bipush 32, 2) := by decide +kernel
theorem dX11_init_121 : decode cX11_init 121 = .ok (.bastore, 1) := by decide +kernel
theorem dX11_init_122 : decode cX11_init 122 = .ok (.dup, 1) := by decide +kernel
theorem dX11_init_123 : decode cX11_init 123 = .ok (.bipush 13, 2) := by decide +kernel
theorem dX11_init_125 : decode cX11_init 125 = .ok (.bipush 98, 2) := by decide +kernel
theorem dX11_init_127 : decode cX11_init 127 = .ok (.bastore, 1) := by decide +kernel
theorem dX11_init_128 : decode cX11_init 128 = .ok (.dup, 1) := by decide +kernel
theorem dX11_init_129 : decode cX11_init 129 = .ok (.bipush 14, 2) := by decide +kernel
theorem dX11_init_131 : decode cX11_init 131 = .ok (.bipush 97, 2) := by decide +kernel
theorem dX11_init_133 : decode cX11_init 133 = .ok (.bastore, 1) := by decide +kernel
theorem dX11_init_134 : decode cX11_init 134 = .ok (.dup, 1) := by decide +kernel
theorem dX11_init_135 : decode cX11_init 135 = .ok (.bipush 15, 2) := by decide +kernel
theorem dX11_init_137 : decode cX11_init 137 = .ok (.bipush 114, 2) := by decide +kernel
theorem dX11_init_139 : decode cX11_init 139 = .ok (.bastore, 1) := by decide +kernel
theorem dX11_init_140 : decode cX11_init 140 = .ok (.dup, 1) := by decide +kernel
theorem dX11_init_141 : decode cX11_init 141 = .ok (.bipush 16, 2) := by decide +kernel
theorem dX11_init_143 : decode cX11_init 143 = .ok (.bipush 115, 2) := by decide +kernel
theorem dX11_init_145 : decode cX11_init 145 = .ok (.bastore, 1) := by decide +kernel
theorem dX11_init_146 : decode cX11_init 146 = .ok (.dup, 1) := by decide +kernel
theorem dX11_init_147 : decode cX11_init 147 = .ok (.bipush 17, 2) := by decide +kernel
theorem dX11_init_149 : decode cX11_init 149 = .ok (.bipush 32, 2) := by decide +kernel
theorem dX11_init_151 : decode cX11_init 151 = .ok (.bastore, 1) := by decide +kernel
theorem dX11_init_152 : decode cX11_init 152 = .ok (.dup, 1) := by decide +kernel
theorem dX11_init_153 : decode cX11_init 153 = .ok (.bipush 18, 2) := by decide +kernel
theorem dX11_init_155 : decode cX11_init 155 = .ok (.bipush 105, 2) := by decide +kernel
theorem dX11_init_157 : decode cX11_init 157 = .ok (.bastore, 1) := by decide +kernel
theorem dX11_init_158 : decode cX11_init 158 = .ok (.dup, 1) := by decide +kernel
theorem dX11_init_159 : decode cX11_init 159 = .ok (.bipush 19, 2) := by decide +kernel
theorem dX11_init_161 : decode cX11_init 161 = .ok (.bipush 102, 2) := by decide +kernel
theorem dX11_init_163 : decode cX11_init 163 = .ok (.bastore, 1) := by decide +kernel
theorem dX11_init_164 : decode cX11_init 164 = .ok (.dup, 1) := by decide +kernel
theorem dX11_init_165 : decode cX11_init 165 = .ok (.bipush 20, 2) := by decide +kernel
theorem dX11_init_167 : decode cX11_init 167 = .ok (.bipush 32, 2) := by decide +kernel
theorem dX11_init_169 : decode cX11_init 169 = .ok (.bastore, 1) := by decide +kernel
theorem dX11_init_170 : decode cX11_init 170 = .ok (.dup, 1) := by decide +kernel
theorem dX11_init_171 : decode cX11_init 171 = .ok (.bipush 21, 2) := by decide +kernel
theorem dX11_init_173 : decode cX11_init 173 = .ok (.bipush 111, 2) := by decide +kernel
theorem dX11_init_175 : decode cX11_init 175 = .ok (.bastore, 1) := by decide +kernel
theorem dX11_init_176 : decode cX11_init 176 = .ok (.dup, 1) := by decide +kernel
theorem dX11_init_177 : decode cX11_init 177 = .ok (.bipush 22, 2) := by decide +kernel
theorem dX11_init_179 : decode cX11_init 179 = .ok (.bipush 114, 2) := by decide +kernel
theorem dX11_init_181 : decode cX11_init 181 = .ok (.bastore, 1) := by decide +kernel
theorem dX11_init_182 : decode cX11_init 182 = .ok (.dup, 1) := by decide +kernel
theorem dX11_init_183 : decode cX11_init 183 = .ok (.bipush 23, 2) := by decide +kernel
theorem dX11_init_185 : decode cX11_init 185 = .ok (.bipush 32, 2) := by decide +kernel
theorem dX11_init_187 : decode cX11_init 187 = .ok (.bastore, 1) := by decide +kernel
theorem dX11_init_188 : decode cX11_init 188 = .ok (.dup, 1) := by decide +kernel
theorem dX11_init_189 : decode cX11_init 189 = .ok (.bipush 24, 2) := by decide +kernel
theorem dX11_init_191 : decode cX11_init 191 = .ok (.bipush 97, 2) := by decide +kernel
theorem dX11_init_193 : decode cX11_init 193 = .ok (.bastore, 1) := by decide +kernel
theorem dX11_init_194 : decode cX11_init 194 = .ok (.dup, 1) := by decide +kernel
theorem dX11_init_195 : decode cX11_init 195 = .ok (.bipush 25, 2) := by decide +kernel
theorem dX11_init_197 : decode cX11_init 197 = .ok (.bipush 110, 2) := by decide +kernel
theorem dX11_init_199 : decode cX11_init 199 = .ok (.bastore, 1) := by decide +kernel
theorem dX11_init_200 : decode cX11_init 200 = .ok (.dup, 1) := by decide +kernel
theorem dX11_init_201 : decode cX11_init 201 = .ok (.bipush 26, 2) := by decide +kernel
theorem dX11_init_203 : decode cX11_init 203 = .ok (.bipush 100, 2) := by decide +kernel
theorem dX11_init_205 : decode cX11_init 205 = .ok (.bastore, 1) := by decide +kernel
theorem dX11_init_206 : decode cX11_init 206 = .ok (.dup, 1) := by decide +kernel
theorem dX11_init_207 : decode cX11_init 207 = .ok (.bipush 27, 2) := by decide +kernel
theorem dX11_init_209 : decode cX11_init 209 = .ok (.bipush 32, 2) := by decide +kernel
theorem dX11_init_211 : decode cX11_init 211 = .ok (.bastore, 1) := by decide +kernel
theorem dX11_init_212 : decode cX11_init 212 = .ok (.dup, 1) := by decide +kernel
theorem dX11_init_213 : decode cX11_init 213 = .ok (.bipush 28, 2) := by decide +kernel
theorem dX11_init_215 : decode cX11_init 215 = .ok (.bipush 110, 2) := by decide +kernel
theorem dX11_init_217 : decode cX11_init 217 = .ok (.bastore, 1) := by decide +kernel
theorem dX11_init_218 : decode cX11_init 218 = .ok (.dup, 1) := by decide +kernel
theorem dX11_init_219 : decode cX11_init 219 = .ok (.bipush 29, 2) := by decide +kernel
theorem dX11_init_221 : decode cX11_init 221 = .ok (.bipush 111, 2) := by decide +kernel
theorem dX11_init_223 : decode cX11_init 223 = .ok (.bastore, 1) := by decide +kernel
theorem dX11_init_224 : decode cX11_init 224 = .ok (.dup, 1) := by decide +kernel
theorem dX11_init_225 : decode cX11_init 225 = .ok (.bipush 30, 2) := by decide +kernel
theorem dX11_init_227 : decode cX11_init 227 = .ok (.bipush 116, 2) := by decide +kernel
theorem dX11_init_229 : decode cX11_init 229 = .ok (.bastore, 1) := by decide +kernel
theorem dX11_init_230 : decode cX11_init 230 = .ok (.dup, 1) := by decide +kernel
theorem dX11_init_231 : decode cX11_init 231 = .ok (.bipush 31, 2) := by decide +kernel
theorem dX11_init_233 : decode cX11_init 233 = .ok (.bipush 32, 2) := by decide +kernel
theorem dX11_init_235 : decode cX11_init 235 = .ok (.bastore, 1) := by decide +kernel
theorem dX11_init_236 : decode cX11_init 236 = .ok (.dup, 1) := by decide +kernel
theorem dX11_init_237 : decode cX11_init 237 = .ok (.bipush 32, 2) := by decide +kernel
theorem dX11_init_239 : decode cX11_init 239 = .ok (.bipush 100, 2) := by decide +kernel
theorem dX11_init_241 : decode cX11_init 241 = .ok (.bastore, 1) := by decide +kernel
theorem dX11_init_242 : decode cX11_init 242 = .ok (.dup, 1) := by decide +kernel
theorem dX11_init_243 : decode cX11_init 243 = .ok (.bipush 33, 2) := by decide +kernel
theorem dX11_init_245 : decode cX11_init 245 = .ok (.bipush 114, 2) := by decide +kernel
theorem dX11_init_247 : decode cX11_init 247 = .ok (.bastore, 1) := by decide +kernel
theorem dX11_init_248 : decode cX11_init 248 = .ok (.dup, 1) := by decide +kernel
theorem dX11_init_249 : decode cX11_init 249 = .ok (.bipush 34, 2) := by decide +kernel
theorem dX11_init_251 : decode cX11_init 251 = .ok (.bipush 117, 2) := by decide +kernel
theorem dX11_init_253 : decode cX11_init 253 = .ok (.bastore, 1) := by decide +kernel
theorem dX11_init_254 : decode cX11_init 254 = .ok (.dup, 1) := by decide +kernel
theorem dX11_init_255 : decode cX11_init 255 = .ok (.bipush 35, 2) := by decide +kernel
theorem dX11_init_257 : decode cX11_init 257 = .ok (.bipush 109, 2) := by decide +kernel
theorem dX11_init_259 : decode cX11_init 259 = .ok (.bastore, 1) := by decide +kernel
theorem dX11_init_260 : decode cX11_init 260 = .ok (.dup, 1) := by decide +kernel
theorem dX11_init_261 : decode cX11_init 261 = .ok (.bipush 36, 2) := by decide +kernel
theorem dX11_init_263 : decode cX11_init 263 = .ok (.bipush 32, 2) := by decide +kernel
theorem dX11_init_265 : decode cX11_init 265 = .ok (.bastore, 1) := by decide +kernel
theorem dX11_init_266 : decode cX11_init 266 = .ok (.dup, 1) := by decide +kernel
theorem dX11_init_267 : decode cX11_init 267 = .ok (.bipush 37, 2) := by decide +kernel
theorem dX11_init_269 : decode cX11_init 269 = .ok (.bipush 108, 2) := by decide +kernel
theorem dX11_init_271 : decode cX11_init 271 = .ok (.bastore, 1) := by decide +kernel
theorem dX11_init_272 : decode cX11_init 272 = .ok (.dup, 1) := by decide +kernel
theorem dX11_init_273 : decode cX11_init 273 = .ok (.bipush 38, 2) := by decide +kernel
theorem dX11_init_275 : decode cX11_init 275 = .ok (.bipush 111, 2) := by decide +kernel
theorem dX11_init_277 : decode cX11_init 277 = .ok (.bastore, 1) := by decide +kernel
theorem dX11_init_278 : decode cX11_init 278 = .ok (.dup, 1) := by decide +kernel
theorem dX11_init_279 : decode cX11_init 279 = .ok (.bipush 39, 2) := by decide +kernel
theorem dX11_init_281 : decode cX11_init 281 = .ok (.bipush 110, 2) := by decide +kernel
theorem dX11_init_283 : decode cX11_init 283 = .ok (.bastore, 1) := by decide +kernel
theorem dX11_init_284 : decode cX11_init 284 = .ok (.dup, 1) := by decide +kernel
theorem dX11_init_285 : decode cX11_init 285 = .ok (.bipush 40, 2) := by decide +kernel
theorem dX11_init_287 : decode cX11_init 287 = .ok (.bipush 103, 2) := by decide +kernel
theorem dX11_init_289 : decode cX11_init 289 = .ok (.bastore, 1) := by decide +kernel
theorem dX11_init_290 : decode cX11_init 290 = .ok (.dup, 1) := by decide +kernel
theorem dX11_init_291 : decode cX11_init 291 = .ok (.bipush 41, 2) := by decide +kernel
theorem dX11_init_293 : decode cX11_init 293 = .ok (.bipush 32, 2) := by decide +kernel
theorem dX11_init_295 : decode cX11_init 295 = .ok (.bastore, 1) := by decide +kernel
theorem dX11_init_296 : decode cX11_init 296 = .ok (.dup, 1) := by decide +kernel
theorem dX11_init_297 : decode cX11_init 297 = .ok (.bipush 42, 2) := by decide +kernel
theorem dX11_init_299 : decode cX11_init 299 = .ok (.bipush 107, 2) := by decide +kernel
theorem dX11_init_301 : decode cX11_init 301 = .ok (.bastore, 1) := by decide +kernel
theorem dX11_init_302 : decode cX11_init 302 = .ok (.dup, 1) := by decide +kernel
theorem dX11_init_303 : decode cX11_init 303 = .ok (.bipush 43, 2) := by decide +kernel
theorem dX11_init_305 : decode cX11_init 305 = .ok (.bipush 105, 2) := by decide +kernel
theorem dX11_init_307 : decode cX11_init 307 = .ok (.bastore, 1) := by decide +kernel
theorem dX11_init_308 : decode cX11_init 308 = .ok (.dup, 1) := by decide +kernel
theorem dX11_init_309 : decode cX11_init 309 = .ok (.bipush 44, 2) := by decide +kernel
theorem dX11_init_311 : decode cX11_init 311 = .ok (.bipush 110, 2) := by decide +kernel
theorem dX11_init_313 : decode cX11_init 313 = .ok (.bastore, 1) := by decide +kernel
theorem dX11_init_314 : decode cX11_init 314 = .ok (.dup, 1) := by decide +kernel
theorem dX11_init_315 : decode cX11_init 315 = .ok (.bipush 45, 2) := by decide +kernel
theorem dX11_init_317 : decode cX11_init 317 = .ok (.bipush 100, 2) := by decide +kernel
theorem dX11_init_319 : decode cX11_init 319 = .ok (.bastore, 1) := by decide +kernel
theorem dX11_init_320 : decode cX11_init 320 = .ok (.dup, 1) := by decide +kernel
theorem dX11_init_321 : decode cX11_init 321 = .ok (.bipush 46, 2) := by decide +kernel
theorem dX11_init_323 : decode cX11_init 323 = .ok (.bipush 32, 2) := by decide +kernel
theorem dX11_init_325 : decode cX11_init 325 = .ok (.bastore, 1) := by decide +kernel
theorem dX11_init_326 : decode cX11_init 326 = .ok (.dup, 1) := by decide +kernel
theorem dX11_init_327 : decode cX11_init 327 = .ok (.bipush 47, 2) := by decide +kernel
theorem dX11_init_329 : decode cX11_init 329 = .ok (.bipush 98, 2) := by decide +kernel
theorem dX11_init_331 : decode cX11_init 331 = .ok (.bastore, 1) := by decide +kernel
theorem dX11_init_332 : decode cX11_init 332 = .ok (.dup, 1) := by decide +kernel
theorem dX11_init_333 : decode cX11_init 333 = .ok (.bipush 48, 2) := by decide +kernel
theorem dX11_init_335 : decode cX11_init 335 = .ok (.bipush 101, 2) := by decide +kernel
theorem dX11_init_337 : decode cX11_init 337 = .ok (.bastore, 1) := by decide +kernel
theorem dX11_init_338 : decode cX11_init 338 = .ok (.dup, 1) := by decide +kernel
theorem dX11_init_339 : decode cX11_init 339 = .ok (.bipush 49, 2) := by decide +kernel
theorem dX11_init_341 : decode cX11_init 341 = .ok (.bipush 97, 2) := by decide +kernel
theorem dX11_init_343 : decode cX11_init 343 = .ok (.bastore, 1) := by decide +kernel
theorem dX11_init_344 : decode cX11_init 344 = .ok (.dup, 1) := by decide +kernel
theorem dX11_init_345 : decode cX11_init 345 = .ok (.bipush 50, 2) := by decide +kernel
theorem dX11_init_347 : decode cX11_init 347 = .ok (.bipush 116, 2) := by decide +kernel
theorem dX11_init_349 : decode cX11_init 349 = .ok (.bastore, 1) := by decide +kernel
theorem dX11_init_350 : decode cX11_init 350 = .ok (.dup, 1) := by decide +kernel
theorem dX11_init_351 : decode cX11_init 351 = .ok (.bipush 51, 2) := by decide +kernel
theorem dX11_init_353 : decode cX11_init 353 = .ok (.bipush 32, 2) := by decide +kernel
theorem dX11_init_355 : decode cX11_init 355 = .ok (.bastore, 1) := by decide +kernel
theorem dX11_init_356 : decode cX11_init 356 = .ok (.dup, 1) := by decide +kernel
theorem dX11_init_357 : decode cX11_init 357 = .ok (.bipush 52, 2) := by decide +kernel
theorem dX11_init_359 : decode cX11_init 359 = .ok (.bipush 109, 2) := by decide +kernel
theorem dX11_init_361 : decode cX11_init 361 = .ok (.bastore, 1) := by decide +kernel
theorem dX11_init_362 : decode cX11_init 362 = .ok (.dup, 1) := by decide +kernel
theorem dX11_init_363 : decode cX11_init 363 = .ok (.bipush 53, 2) := by decide +kernel
theorem dX11_init_365 : decode cX11_init 365 = .ok (.bipush 111, 2) := by decide +kernel
theorem dX11_init_367 : decode cX11_init 367 = .ok (.bastore, 1) := by decide +kernel
theorem dX11_init_368 : decode cX11_init 368 = .ok (.dup, 1) := by decide +kernel
theorem dX11_init_369 : decode cX11_init 369 = .ok (.bipush 54, 2) := by decide +kernel
theorem dX11_init_371 : decode cX11_init 371 = .ok (.bipush 111, 2) := by decide +kernel
theorem dX11_init_373 : decode cX11_init 373 = .ok (.bastore, 1) := by decide +kernel
theorem dX11_init_374 : decode cX11_init 374 = .ok (.dup, 1) := by decide +kernel
theorem dX11_init_375 : decode cX11_init 375 = .ok (.bipush 55, 2) := by decide +kernel
theorem dX11_init_377 : decode cX11_init 377 = .ok (.bipush 100, 2) := by decide +kernel
theorem dX11_init_379 : decode cX11_init 379 = .ok (.bastore, 1) := by decide +kernel
theorem dX11_init_380 : decode cX11_init 380 = .ok (.dup, 1) := by decide +kernel
theorem dX11_init_381 : decode cX11_init 381 = .ok (.bipush 56, 2) := by decide +kernel
theorem dX11_init_383 : decode cX11_init 383 = .ok (.bipush 32, 2) := by decide +kernel
theorem dX11_init_385 : decode cX11_init 385 = .ok (.bastore, 1) := by decide +kernel
theorem dX11_init_386 : decode cX11_init 386 = .ok (.dup, 1) := by decide +kernel
theorem dX11_init_387 : decode cX11_init 387 = .ok (.bipush 57, 2) := by decide +kernel
theorem dX11_init_389 : decode cX11_init 389 = .ok (.bipush 112, 2) := by decide +kernel
theorem dX11_init_391 : decode cX11_init 391 = .ok (.bastore, 1) := by decide +kernel
theorem dX11_init_392 : decode cX11_init 392 = .ok (.dup, 1) := by decide +kernel
theorem dX11_init_393 : decode cX11_init 393 = .ok (.bipush 58, 2) := by decide +kernel
theorem dX11_init_395 : decode cX11_init 395 = .ok (.bipush 105, 2) := by decide +kernel
theorem dX11_init_397 : decode cX11_init 397 = .ok (.bastore, 1) := by decide +kernel
theorem dX11_init_398 : decode cX11_init 398 = .ok (.dup, 1) := by decide +kernel
theorem dX11_init_399 : decode cX11_init 399 = .ok (.bipush 59, 2) := by decide +kernel
theorem dX11_init_401 : decode cX11_init 401 = .ok (.bipush 110, 2) := by decide +kernel
theorem dX11_init_403 : decode cX11_init 403 = .ok (.bastore, 1) := by decide +kernel
theorem dX11_init_404 : decode cX11_init 404 = .ok (.dup, 1) := by decide +kernel
theorem dX11_init_405 : decode cX11_init 405 = .ok (.bipush 60, 2) := by decide +kernel
theorem dX11_init_407 : decode cX11_init 407 = .ok (.bipush 115, 2) := by decide +kernel
theorem dX11_init_409 : decode cX11_init 409 = .ok (.bastore, 1) := by decide +kernel
theorem dX11_init_410 : decode cX11_init 410 = .ok (.dup, 1) := by decide +kernel
theorem dX11_init_411 : decode cX11_init 411 = .ok (.bipush 61, 2) := by decide +kernel
theorem dX11_init_413 : decode cX11_init 413 = .ok (.bipush 32, 2) := by decide +kernel
theorem dX11_init_415 : decode cX11_init 415 = .ok (.bastore, 1) := by decide +kernel
theorem dX11_init_416 : decode cX11_init 416 = .ok (.dup, 1) := by decide +kernel
theorem dX11_init_417 : decode cX11_init 417 = .ok (.bipush 62, 2) := by decide +kernel
theorem dX11_init_419 : decode cX11_init 419 = .ok (.bipush 104, 2) := by decide +kernel
theorem dX11_init_421 : decode cX11_init 421 = .ok (.bastore, 1) := by decide +kernel
theorem dX11_init_422 : decode cX11_init 422 = .ok (.dup, 1) := by decide +kernel
theorem dX11_init_423 : decode cX11_init 423 = .ok (.bipush 63, 2) := by decide +kernel
theorem dX11_init_425 : decode cX11_init 425 = .ok (.bipush 111, 2) := by decide +kernel
theorem dX11_init_427 : decode cX11_init 427 = .ok (.bastore, 1) := by decide +kernel
theorem dX11_init_428 : decode cX11_init 428 = .ok (.dup, 1) := by decide +kernel
theorem dX11_init_429 : decode cX11_init 429 = .ok (.bipush 64, 2) := by decide +kernel
theorem dX11_init_431 : decode cX11_init 431 = .ok (.bipush 117, 2) := by decide +kernel
theorem dX11_init_433 : decode cX11_init 433 = .ok (.bastore, 1) := by decide +kernel
theorem dX11_init_434 : decode cX11_init 434 = .ok (.dup, 1) := by decide +kernel
theorem dX11_init_435 : decode cX11_init 435 = .ok (.bipush 65, 2) := by decide +kernel
theorem dX11_init_437 : decode cX11_init 437 = .ok (.bipush 114, 2) := by decide +kernel
theorem dX11_init_439 : decode cX11_init 439 = .ok (.bastore, 1) := by decide +kernel
theorem dX11_init_440 : decode cX11_init 440 = .ok (.dup, 1) := by decide +kernel
theorem dX11_init_441 : decode cX11_init 441 = .ok (.bipush 66, 2) := by decide +kernel
theorem dX11_init_443 : decode cX11_init 443 = .ok (.bipush 32, 2) := by decide +kernel
theorem dX11_init_445 : decode cX11_init 445 = .ok (.bastore, 1) := by decide +kernel
theorem dX11_init_446 : decode cX11_init 446 = .ok (.dup, 1) := by decide +kernel
theorem dX11_init_447 : decode cX11_init 447 = .ok (.bipush 67, 2) := by decide +kernel
theorem dX11_init_449 : decode cX11_init 449 = .ok (.bipush 100, 2) := by decide +kernel
theorem dX11_init_451 : decode cX11_init 451 = .ok (.bastore, 1) := by decide +kernel
theorem dX11_init_452 : decode cX11_init 452 = .ok (.dup, 1) := by decide +kernel
theorem dX11_init_453 : decode cX11_init 453 = .ok (.bipush 68, 2) := by decide +kernel
theorem dX11_init_455 : decode cX11_init 455 = .ok (.bipush 111, 2) := by decide +kernel
theorem dX11_init_457 : decode cX11_init 457 = .ok (.bastore, 1) := by decide +kernel
theorem dX11_init_458 : decode cX11_init 458 = .ok (.dup, 1) := by decide +kernel
theorem dX11_init_459 : decode cX11_init 459 = .ok (.bipush 69, 2) := by decide +kernel
theorem dX11_init_461 : decode cX11_init 461 = .ok (.bipush 110, 2) := by decide +kernel
theorem dX11_init_463 : decode cX11_init 463 = .ok (.bastore, 1) := by decide +kernel
theorem dX11_init_464 : decode cX11_init 464 = .ok (.dup, 1) := by decide +kernel
theorem dX11_init_465 : decode cX11_init 465 = .ok (.bipush 70, 2) := by decide +kernel
theorem dX11_init_467 : decode cX11_init 467 = .ok (.bipush 101, 2) := by decide +kernel
theorem dX11_init_469 : decode cX11_init 469 = .ok (.bastore, 1) := by decide +kernel
theorem dX11_init_470 : decode cX11_init 470 = .ok (.dup, 1) := by decide +kernel
theorem dX11_init_471 : decode cX11_init 471 = .ok (.bipush 71, 2) := by decide +kernel
theorem dX11_init_473 : decode cX11_init 473 = .ok (.bipush 32, 2) := by decide +kernel
theorem dX11_init_475 : decode cX11_init 475 = .ok (.bastore, 1) := by decide +kernel
theorem dX11_init_476 : decode cX11_init 476 = .ok (.dup, 1) := by decide +kernel
theorem dX11_init_477 : decode cX11_init 477 = .ok (.bipush 72, 2) := by decide +kernel
theorem dX11_init_479 : decode cX11_init 479 = .ok (.bipush 108, 2) := by decide +kernel
theorem dX11_init_481 : decode cX11_init 481 = .ok (.bastore, 1) := by decide +kernel
theorem dX11_init_482 : decode cX11_init 482 = .ok (.dup, 1) := by decide +kernel
theorem dX11_init_483 : decode cX11_init 483 = .ok (.bipush 73, 2) := by decide +kernel
theorem dX11_init_485 : decode cX11_init 485 = .ok (.bipush 97, 2) := by decide +kernel
theorem dX11_init_487 : decode cX11_init 487 = .ok (.bastore, 1) := by decide +kernel
theorem dX11_init_488 : decode cX11_init 488 = .ok (.dup, 1) := by decide +kernel
theorem dX11_init_489 : decode cX11_init 489 = .ok (.bipush 74, 2) := by decide +kernel
theorem dX11_init_491 : decode cX11_init 491 = .ok (.bipush 116, 2) := by decide +kernel
theorem dX11_init_493 : decode cX11_init 493 = .ok (.bastore, 1) := by decide +kernel
theorem dX11_init_494 : decode cX11_init 494 = .ok (.dup, 1) := by decide +kernel
theorem dX11_init_495 : decode cX11_init 495 = .ok (.bipush 75, 2) := by decide +kernel
theorem dX11_init_497 : decode cX11_init 497 = .ok (.bipush 101, 2) := by decide +kernel
theorem dX11_init_499 : decode cX11_init 499 = .ok (.bastore, 1) := by decide +kernel
theorem dX11_init_500 : decode cX11_init 500 = .ok (.dup, 1) := by decide +kernel
theorem dX11_init_501 : decode cX11_init 501 = .ok (.bipush 76, 2) := by decide +kernel
theorem dX11_init_503 : decode cX11_init 503 = .ok (.bipush 115, 2) := by decide +kernel
theorem dX11_init_505 : decode cX11_init 505 = .ok (.bastore, 1) := by decide +kernel
theorem dX11_init_506 : decode cX11_init 506 = .ok (.dup, 1) := by decide +kernel
theorem dX11_init_507 : decode cX11_init 507 = .ok (.bipush 77, 2) := by decide +kernel
theorem dX11_init_509 : decode cX11_init 509 = .ok (.bipush 116, 2) := by decide +kernel
theorem dX11_init_511 : decode cX11_init 511 = .ok (.bastore, 1) := by decide +kernel
theorem dX11_init_512 : decode cX11_init 512 = .ok (.dup, 1) := by decide +kernel
theorem dX11_init_513 : decode cX11_init 513 = .ok (.bipush 78, 2) := by decide +kernel
theorem dX11_init_515 : decode cX11_init 515 = .ok (.bipush 32, 2) := by decide +kernel
theorem dX11_init_517 : decode cX11_init 517 = .ok (.bastore, 1) := by decide +kernel
theorem dX11_init_518 : decode cX11_init 518 = .ok (.dup, 1) := by decide +kernel
theorem dX11_init_519 : decode cX11_init 519 = .ok (.bipush 79, 2) := by decide +kernel
theorem dX11_init_521 : decode cX11_init 521 = .ok (.bipush 108, 2) := by decide +kernel
theorem dX11_init_523 : decode cX11_init 523 = .ok (.bastore, 1) := by decide +kernel
theorem dX11_init_524 : decode cX11_init 524 = .ok (.dup, 1) := by decide +kernel
theorem dX11_init_525 : decode cX11_init 525 = .ok (.bipush 80, 2) := by decide +kernel
theorem dX11_init_527 : decode cX11_init 527 = .ok (.bipush 111, 2) := by decide +kernel
theorem dX11_init_529 : decode cX11_init 529 = .ok (.bastore, 1) := by decide +kernel
theorem dX11_init_530 : decode cX11_init 530 = .ok (.dup, 1) := by decide +kernel
theorem dX11_init_531 : decode cX11_init 531 = .ok (.bipush 81, 2) := by decide +kernel
theorem dX11_init_533 : decode cX11_init 533 = .ok (.bipush 117, 2) := by decide +kernel
theorem dX11_init_535 : decode cX11_init 535 = .ok (.bastore, 1) := by decide +kernel
theorem dX11_init_536 : decode cX11_init 536 = .ok (.dup, 1) := by decide +kernel
theorem dX11_init_537 : decode cX11_init 537 = .ok (.bipush 82, 2) := by decide +kernel
theorem dX11_init_539 : decode cX11_init 539 = .ok (.bipush 100, 2) := by decide +kernel
theorem dX11_init_541 : decode cX11_init 541 = .ok (.bastore, 1) := by decide +kernel
theorem dX11_init_542 : decode cX11_init 542 = .ok (.dup, 1) := by decide +kernel
theorem dX11_init_543 : decode cX11_init 543 = .ok (.bipush 83, 2) := by decide +kernel
theorem dX11_init_545 : decode cX11_init 545 = .ok (.bipush 32, 2) := by decide +kernel
theorem dX11_init_547 : decode cX11_init 547 = .ok (.bastore, 1) := by decide +kernel
theorem dX11_init_548 : decode cX11_init 548 = .ok (.dup, 1) := by decide +kernel
theorem dX11_init_549 : decode cX11_init 549 = .ok (.bipush 84, 2) := by decide +kernel
theorem dX11_init_551 : decode cX11_init 551 = .ok (.bipush 97, 2) := by decide +kernel
theorem dX11_init_553 : decode cX11_init 553 = .ok (.bastore, 1) := by decide +kernel
theorem dX11_init_554 : decode cX11_init 554 = .ok (.dup, 1) := by decide +kernel
theorem dX11_init_555 : decode cX11_init 555 = .ok (.bipush 85, 2) := by decide +kernel
theorem dX11_init_557 : decode cX11_init 557 = .ok (.bipush 108, 2) := by decide +kernel
theorem dX11_init_559 : decode cX11_init 559 = .ok (.bastore, 1) := by decide +kernel
theorem dX11_init_560 : decode cX11_init 560 = .ok (.dup, 1) := by decide +kernel
theorem dX11_init_561 : decode cX11_init 561 = .ok (.bipush 86, 2) := by decide +kernel
theorem dX11_init_563 : decode cX11_init 563 = .ok (.bipush 108, 2) := by decide +kernel
theorem dX11_init_565 : decode cX11_init 565 = .ok (.bastore, 1) := by decide +kernel
theorem dX11_init_566 : decode cX11_init 566 = .ok (.dup, 1) := by decide +kernel
theorem dX11_init_567 : decode cX11_init 567 = .ok (.bipush 87, 2) := by decide +kernel
theorem dX11_init_569 : decode cX11_init 569 = .ok (.bipush 32, 2) := by decide +kernel
theorem dX11_init_571 : decode cX11_init 571 = .ok (.bastore, 1) := by decide +kernel
theorem dX11_init_572 : decode cX11_init 572 = .ok (.dup, 1) := by decide +kernel
theorem dX11_init_573 : decode cX11_init 573 = .ok (.bipush 88, 2) := by decide +kernel
theorem dX11_init_575 : decode cX11_init 575 = .ok (.bipush 97, 2) := by decide +kernel
theorem dX11_init_577 : decode cX11_init 577 = .ok (.bastore, 1) := by decide +kernel
theorem dX11_init_578 : decode cX11_init 578 = .ok (.dup, 1) := by decide +kernel
theorem dX11_init_579 : decode cX11_init 579 = .ok (.bipush 89, 2) := by decide +kernel
theorem dX11_init_581 : decode cX11_init 581 = .ok (.bipush 116, 2) := by decide +kernel
theorem dX11_init_583 : decode cX11_init 583 = .ok (.bastore, 1) := by decide +kernel
theorem dX11_init_584 : decode cX11_init 584 = .ok (.dup, 1) := by decide +kernel
theorem dX11_init_585 : decode cX11_init 585 = .ok (.bipush 90, 2) := by decide +kernel
theorem dX11_init_587 : decode cX11_init 587 = .ok (.bipush 32, 2) := by decide +kernel
theorem dX11_init_589 : decode cX11_init 589 = .ok (.bastore, 1) := by decide +kernel
theorem dX11_init_590 : decode cX11_init 590 = .ok (.dup, 1) := by decide +kernel
theorem dX11_init_591 : decode cX11_init 591 = .ok (.bipush 91, 2) := by decide +kernel
theorem dX11_init_593 : decode cX11_init 593 = .ok (.bipush 112, 2) := by decide +kernel
theorem dX11_init_595 : decode cX11_init 595 = .ok (.bastore, 1) := by decide +kernel
theorem dX11_init_596 : decode cX11_init 596 = .ok (.dup, 1) := by decide +kernel
theorem dX11_init_597 : decode cX11_init 597 = .ok (.bipush 92, 2) := by decide +kernel
theorem dX11_init_599 : decode cX11_init 599 = .ok (.bipush 105, 2) := by decide +kernel
theorem dX11_init_601 : decode cX11_init 601 = .ok (.bastore, 1) := by decide +kernel
theorem dX11_init_602 : decode cX11_init 602 = .ok (.dup, 1) := by decide +kernel
theorem dX11_init_603 : decode cX11_init 603 = .ok (.bipush 93, 2) := by decide +kernel
theorem dX11_init_605 : decode cX11_init 605 = .ok (.bipush 110, 2) := by decide +kernel
theorem dX11_init_607 : decode cX11_init 607 = .ok (.bastore, 1) := by decide +kernel
theorem dX11_init_608 : decode cX11_init 608 = .ok (.dup, 1) := by decide +kernel
theorem dX11_init_609 : decode cX11_init 609 = .ok (.bipush 94, 2) := by decide +kernel
theorem dX11_init_611 : decode cX11_init 611 = .ok (.bipush 32, 2) := by decide +kernel
theorem dX11_init_613 : decode cX11_init 613 = .ok (.bastore, 1) := by decide +kernel
theorem dX11_init_614 : decode cX11_init 614 = .ok (.dup, 1) := by decide +kernel
theorem dX11_init_615 : decode cX11_init 615 = .ok (.bipush 95, 2) := by decide +kernel
theorem dX11_init_617 : decode cX11_init 617 = .ok (.bipush 115, 2) := by decide +kernel
theorem dX11_init_619 : decode cX11_init 619 = .ok (.bastore, 1) := by decide +kernel
theorem dX11_init_620 : decode cX11_init 620 = .ok (.dup, 1) := by decide +kernel
theorem dX11_init_621 : decode cX11_init 621 = .ok (.bipush 96, 2) := by decide +kernel
theorem dX11_init_623 : decode cX11_init 623 = .ok (.bipush 104, 2) := by decide +kernel
theorem dX11_init_625 : decode cX11_init 625 = .ok (.bastore, 1) := by decide +kernel
theorem dX11_init_626 : decode cX11_init 626 = .ok (.dup, 1) := by decide +kernel
theorem dX11_init_627 : decode cX11_init 627 = .ok (.bipush 97, 2) := by decide +kernel
theorem dX11_init_629 : decode cX11_init 629 = .ok (.bipush 105, 2) := by decide +kernel
theorem dX11_init_631 : decode cX11_init 631 = .ok (.bastore, 1) := by decide +kernel
theorem dX11_init_632 : decode cX11_init 632 = .ok (.dup, 1) := by decide +kernel
theorem dX11_init_633 : decode cX11_init 633 = .ok (.bipush 98, 2) := by decide +kernel
theorem dX11_init_635 : decode cX11_init 635 = .ok (.bipush 102, 2) := by decide +kernel
theorem dX11_init_637 : decode cX11_init 637 = .ok (.bastore, 1) := by decide +kernel
theorem dX11_init_638 : decode cX11_init 638 = .ok (.dup, 1) := by decide +kernel
theorem dX11_init_639 : decode cX11_init 639 = .ok (.bipush 99, 2) := by decide +kernel
theorem dX11_init_641 : decode cX11_init 641 = .ok (.bipush 116, 2) := by decide +kernel
theorem dX11_init_643 : decode cX11_init 643 = .ok (.bastore, 1) := by decide +kernel
theorem dX11_init_644 : decode cX11_init 644 = .ok (.dup, 1) := by decide +kernel
theorem dX11_init_645 : decode cX11_init 645 = .ok (.bipush 100, 2) := by decide +kernel
theorem dX11_init_647 : decode cX11_init 647 = .ok (.bipush 32, 2) := by decide +kernel
theorem dX11_init_649 : decode cX11_init 649 = .ok (.bastore, 1) := by decide +kernel
theorem dX11_init_650 : decode cX11_init 650 = .ok (.dup, 1) := by decide +kernel
theorem dX11_init_651 : decode cX11_init 651 = .ok (.bipush 101, 2) := by decide +kernel
theorem dX11_init_653 : decode cX11_init 653 = .ok (.bipush 98, 2) := by decide +kernel
theorem dX11_init_655 : decode cX11_init 655 = .ok (.bastore, 1) := by decide +kernel
theorem dX11_init_656 : decode cX11_init 656 = .ok (.dup, 1) := by decide +kernel
theorem dX11_init_657 : decode cX11_init 657 = .ok (.bipush 102, 2) := by decide +kernel
theorem dX11_init_659 : decode cX11_init 659 = .ok (.bipush 121, 2) := by decide +kernel
theorem dX11_init_661 : decode cX11_init 661 = .ok (.bastore, 1) := by decide +kernel
theorem dX11_init_662 : decode cX11_init 662 = .ok (.dup, 1) := by decide +kernel
theorem dX11_init_663 : decode cX11_init 663 = .ok (.bipush 103, 2) := by decide +kernel
theorem dX11_init_665 : decode cX11_init 665 = .ok (.bipush 32, 2) := by decide +kernel
theorem dX11_init_667 : decode cX11_init 667 = .ok (.bastore, 1) := by decide +kernel
theorem dX11_init_668 : decode cX11_init 668 = .ok (.dup, 1) := by decide +kernel
theorem dX11_init_669 : decode cX11_init 669 = .ok (.bipush 104, 2) := by decide +kernel
theorem dX11_init_671 : decode cX11_init 671 = .ok (.bipush 115, 2) := by decide +kernel
theorem dX11_init_673 : decode cX11_init 673 = .ok (.bastore, 1) := by decide +kernel
theorem dX11_init_674 : decode cX11_init 674 = .ok (.dup, 1) := by decide +kernel
theorem dX11_init_675 : decode cX11_init 675 = .ok (.bipush 105, 2) := by decide +kernel
theorem dX11_init_677 : decode cX11_init 677 = .ok (.bipush 116, 2) := by decide +kernel
theorem dX11_init_679 : decode cX11_init 679 = .ok (.bastore, 1) := by decide +kernel
theorem dX11_init_680 : decode cX11_init 680 = .ok (.dup, 1) := by decide +kernel
theorem dX11_init_681 : decode cX11_init 681 = .ok (.bipush 106, 2) := by decide +kernel
theorem dX11_init_683 : decode cX11_init 683 = .ok (.bipush 111, 2) := by decide +kernel
theorem dX11_init_685 : decode cX11_init 685 = .ok (.bastore, 1) := by decide +kernel
theorem dX11_init_686 : decode cX11_init 686 = .ok (.dup, 1) := by decide +kernel
theorem dX11_init_687 : decode cX11_init 687 = .ok (.bipush 107, 2) := by decide +kernel
theorem dX11_init_689 : decode cX11_init 689 = .ok (.bipush 112, 2) := by decide +kernel
theorem dX11_init_691 : decode cX11_init 691 = .ok (.bastore, 1) := by decide +kernel
theorem dX11_init_692 : decode cX11_init 692 = .ok (.dup, 1) := by decide +kernel
theorem dX11_init_693 : decode cX11_init 693 = .ok (.bipush 108, 2) := by decide +kernel
theorem dX11_init_695 : decode cX11_init 695 = .ok (.bipush 32, 2) := by decide +kernel
theorem dX11_init_697 : decode cX11_init 697 = .ok (.bastore, 1) := by decide +kernel
theorem dX11_init_698 : decode cX11_init 698 = .ok (.dup, 1) := by decide +kernel
theorem dX11_init_699 : decode cX11_init 699 = .ok (.bipush 109, 2) := by decide +kernel
theorem dX11_init_701 : decode cX11_init 701 = .ok (.bipush 112, 2) := by decide +kernel
theorem dX11_init_703 : decode cX11_init 703 = .ok (.bastore, 1) := by decide +kernel
theorem dX11_init_704 : decode cX11_init 704 = .ok (.dup, 1) := by decide +kernel
theorem dX11_init_705 : decode cX11_init 705 = .ok (.bipush 110, 2) := by decide +kernel
theorem dX11_init_707 : decode cX11_init 707 = .ok (.bipush 97, 2) := by decide +kernel
theorem dX11_init_709 : decode cX11_init 709 = .ok (.bastore, 1) := by decide +kernel
theorem dX11_init_710 : decode cX11_init 710 = .ok (.dup, 1) := by decide +kernel
theorem dX11_init_711 : decode cX11_init 711 = .ok (.bipush 111, 2) := by decide +kernel
theorem dX11_init_713 : decode cX11_init 713 = .ok (.bipush 115, 2) := by decide +kernel
theorem dX11_init_715 : decode cX11_init 715 = .ok (.bastore, 1) := by decide +kernel
theorem dX11_init_716 : decode cX11_init 716 = .ok (.dup, 1) := by decide +kernel
theorem dX11_init_717 : decode cX11_init 717 = .ok (.bipush 112, 2) := by decide +kernel
theorem dX11_init_719 : decode cX11_init 719 = .ok (.bipush 115, 2) := by decide +kernel
theorem dX11_init_721 : decode cX11_init 721 = .ok (.bastore, 1) := by decide +kernel
theorem dX11_init_722 : decode cX11_init 722 = .ok (.dup, 1) := by decide +kernel
theorem dX11_init_723 : decode cX11_init 723 = .ok (.bipush 113, 2) := by decide +kernel
theorem dX11_init_725 : decode cX11_init 725 = .ok (.bipush 32, 2) := by decide +kernel
theorem dX11_init_727 : decode cX11_init 727 = .ok (.bastore, 1) := by decide +kernel
theorem dX11_init_728 : decode cX11_init 728 = .ok (.dup, 1) := by decide +kernel
theorem dX11_init_729 : decode cX11_init 729 = .ok (.bipush 114, 2) := by decide +kernel
theorem dX11_init_731 : decode cX11_init 731 = .ok (.bipush 116, 2) := by decide +kernel
theorem dX11_init_733 : decode cX11_init 733 = .ok (.bastore, 1) := by decide +kernel
theorem dX11_init_734 : decode cX11_init 734 = .ok (.dup, 1) := by decide +kernel
theorem dX11_init_735 : decode cX11_init 735 = .ok (.bipush 115, 2) := by decide +kernel
theorem dX11_init_737 : decode cX11_init 737 = .ok (.bipush 105, 2) := by decide +kernel
theorem dX11_init_739 : decode cX11_init 739 = .ok (.bastore, 1) := by decide +kernel
theorem dX11_init_740 : decode cX11_init 740 = .ok (.dup, 1) := by decide +kernel
theorem dX11_init_741 : decode cX11_init 741 = .ok (.bipush 116, 2) := by decide +kernel
theorem dX11_init_743 : decode cX11_init 743 = .ok (.bipush 109, 2) := by decide +kernel
theorem dX11_init_745 : decode cX11_init 745 = .ok (.bastore, 1) := by decide +kernel
theorem dX11_init_746 : decode cX11_init 746 = .ok (.dup, 1) := by decide +kernel
theorem dX11_init_747 : decode cX11_init 747 = .ok (.bipush 117, 2) := by decide +kernel
theorem dX11_init_749 : decode cX11_init 749 = .ok (.bipush 101, 2) := by decide +kernel
theorem dX11_init_751 : decode cX11_init 751 = .ok (.bastore, 1) := by decide +kernel
theorem dX11_init_752 : decode cX11_init 752 = .ok (.dup, 1) := by decide +kernel
theorem dX11_init_753 : decode cX11_init 753 = .ok (.bipush 118, 2) := by decide +kernel
theorem dX11_init_755 : decode cX11_init 755 = .ok (.bipush 115, 2) := by decide +kernel
theorem dX11_init_757 : decode cX11_init 757 = .ok (.bastore, 1) := by decide +kernel
theorem dX11_init_758 : decode cX11_init 758 = .ok (.dup, 1) := by decide +kernel
theorem dX11_init_759 : decode cX11_init 759 = .ok (.bipush 119, 2) := by decide +kernel
theorem dX11_init_761 : decode cX11_init 761 = .ok (.bipush 32, 2) := by decide +kernel
theorem dX11_init_763 : decode cX11_init 763 = .ok (.bastore, 1) := by decide +kernel
theorem dX11_init_764 : decode cX11_init 764 = .ok (.putfield 41, 3) := by decide +kernel
theorem dX11_init_767 : decode cX11_init 767 = .ok (.aload_n 0, 1) := by decide +kernel
theorem dX11_init_768 : decode cX11_init 768 = .ok (.sipush 400, 3) := by decide +kernel
theorem dX11_init_771 : decode cX11_init 771 = .ok (.newarray .byte, 2) := by decide +kernel
theorem dX11_init_773 : decode cX11_init 773 = .ok (.putfield 45, 3) := by decide +kernel
theorem dX11_init_776 : decode cX11_init 776 = .ok (.aload_n 0, 1) := by decide +kernel
theorem dX11_init_777 : decode cX11_init 777 = .ok (.iconst 5, 1) := by decide +kernel
theorem dX11_init_778 : decode cX11_init 778 = .ok (.newarray .int, 2) := by decide +kernel
theorem dX11_init_780 : decode cX11_init 780 = .ok (.putfield 48, 3) := by decide +kernel
theorem dX11_init_783 : decode cX11_init 783 = .ok (.aload_n 0, 1) := by decide +kernel
theorem dX11_init_784 : decode cX11_init 784 = .ok (.iconst (-1), 1) := by decide +kernel
theorem dX11_init_785 : decode cX11_init 785 = .ok (.putfield 51, 3) := by decide +kernel
theorem dX11_init_788 : decode cX11_init 788 = .ok (.aload_n 0, 1) := by decide +kernel
theorem dX11_init_789 : decode cX11_init 789 = .ok (.sipush 401, 3) := by decide +kernel
theorem dX11_init_792 : decode cX11_init 792 = .ok (.newarray .int, 2) := by decide +kernel
theorem dX11_init_794 : decode cX11_init 794 = .ok (.putfield 54, 3) := by decide +kernel
theorem dX11_init_797 : decode cX11_init 797 = .ok (.aload_n 0, 1) := by decide +kernel
theorem dX11_init_798 : decode cX11_init 798 = .ok (.sipush 401, 3) := by decide +kernel
theorem dX11_init_801 : decode cX11_init 801 = .ok (.newarray .int, 2) := by decide +kernel
theorem dX11_init_803 : decode cX11_init 803 = .ok (.putfield 57, 3) := by decide +kernel
theorem dX11_init_806 : decode cX11_init 806 = .ok (.aload_n 0, 1) := by decide +kernel
theorem dX11_init_807 : decode cX11_init 807 = .ok (.sipush 401, 3) := by decide +kernel
theorem dX11_init_810 : decode cX11_init 810 = .ok (.newarray .int, 2) := by decide +kernel
theorem dX11_init_812 : decode cX11_init 812 = .ok (.putfield 60, 3) := by decide +kernel
theorem dX11_init_815 : decode cX11_init 815 = .ok (.aload_n 0, 1) := by decide +kernel
theorem dX11_init_816 : decode cX11_init 816 = .ok (.bipush 7, 2) := by decide +kernel
theorem dX11_init_818 : decode cX11_init 818 = .ok (.newarray .int, 2) := by decide +kernel
theorem dX11_init_820 : decode cX11_init 820 = .ok (.putfield 63, 3) := by decide +kernel
theorem dX11_init_823 : decode cX11_init 823 = .ok (.aload_n 0, 1) := by decide +kernel
theorem dX11_init_824 : decode cX11_init 824 = .ok (.bipush 6, 2) := by decide +kernel
theorem dX11_init_826 : decode cX11_init 826 = .ok (.newarray .boolean, 2) := by decide +kernel
theorem dX11_init_828 : decode cX11_init 828 = .ok (.putfield 66, 3) := by decide +kernel
theorem dX11_init_831 : decode cX11_init 831 = .ok (.aload_n 0, 1) := by decide +kernel
theorem dX11_init_832 : decode cX11_init 832 = .ok (.sipush 320, 3) := by decide +kernel
theorem dX11_init_835 : decode cX11_init 835 = .ok (.newarray .int, 2) := by decide +kernel
theorem dX11_init_837 : decode cX11_init 837 = .ok (.putfield 69, 3) := by decide +kernel
theorem dX11_init_840 : decode cX11_init 840 = .ok (.aload_n 0, 1) := by decide +kernel
theorem dX11_init_841 : decode cX11_init 841 = .ok (.sipush 320, 3) := by decide +kernel
theorem dX11_init_844 : decode cX11_init 844 = .ok (.newarray .int, 2) := by decide +kernel
theorem dX11_init_846 : decode cX11_init 846 = .ok (.putfield 72, 3) := by decide +kernel
theorem dX11_init_849 : decode cX11_init 849 = .ok (.aload_n 0, 1) := by decide +kernel
theorem dX11_init_850 : decode cX11_init 850 = .ok (.sipush 27720, 3) := by decide +kernel
theorem dX11_init_853 : decode cX11_init 853 = .ok (.newarray .int, 2) := by decide +kernel
theorem dX11_init_855 : decode cX11_init 855 = .ok (.putfield 75, 3) := by decide +kernel
theorem dX11_init_858 : decode cX11_init 858 = .ok (.aload_n 0, 1) := by decide +kernel
theorem dX11_init_859 : decode cX11_init 859 = .ok (.sipush 27720, 3) := by decide +kernel
theorem dX11_init_862 : decode cX11_init 862 = .ok (.newarray .int, 2) := by decide +kernel
theorem dX11_init_864 : decode cX11_init 864 = .ok (.putfield 78, 3) := by decide +kernel
theorem dX11_init_867 : decode cX11_init 867 = .ok (.aload_n 0, 1) := by decide +kernel
theorem dX11_init_868 : decode cX11_init 868 = .ok (.bipush 72, 2) := by decide +kernel
theorem dX11_init_870 : decode cX11_init 870 = .ok (.newarray .int, 2) := by decide +kernel
theorem dX11_init_872 : decode cX11_init 872 = .ok (.putfield 81, 3) := by decide +kernel
theorem dX11_init_875 : decode cX11_init 875 = .ok (.aload_n 0, 1) := by decide +kernel
theorem dX11_init_876 : decode cX11_init 876 = .ok (.bipush 64, 2) := by decide +kernel
theorem dX11_init_878 : decode cX11_init 878 = .ok (.newarray .boolean, 2) := by decide +kernel
theorem dX11_init_880 : decode cX11_init 880 = .ok (.putfield 84, 3) := by decide +kernel
theorem dX11_init_883 : decode cX11_init 883 = .ok (.aload_n 0, 1) := by decide +kernel
theorem dX11_init_884 : decode cX11_init 884 = .ok (.bipush 72, 2) := by decide +kernel
theorem dX11_init_886 : decode cX11_init 886 = .ok (.newarray .boolean, 2) := by decide +kernel
theorem dX11_init_888 : decode cX11_init 888 = .ok (.putfield 87, 3) := by decide +kernel
theorem dX11_init_891 : decode cX11_init 891 = .ok (.aload_n 0, 1) := by decide +kernel
theorem dX11_init_892 : decode cX11_init 892 = .ok (.bipush 21, 2) := by decide +kernel
theorem dX11_init_894 : decode cX11_init 894 = .ok (.newarray .long, 2) := by decide +kernel
theorem dX11_init_896 : decode cX11_init 896 = .ok (.putfield 90, 3) := by decide +kernel
theorem dX11_init_899 : decode cX11_init 899 = .ok (.aload_n 0, 1) := by decide +kernel
theorem dX11_init_900 : decode cX11_init 900 = .ok (.iconst (-1), 1) := by decide +kernel
theorem dX11_init_901 : decode cX11_init 901 = .ok (.putfield 94, 3) := by decide +kernel
theorem dX11_init_904 : decode cX11_init 904 = .ok (.aload_n 0, 1) := by decide +kernel
theorem dX11_init_905 : decode cX11_init 905 = .ok (.iconst 2, 1) := by decide +kernel
theorem dX11_init_906 : decode cX11_init 906 = .ok (.newarray .long, 2) := by decide +kernel
theorem dX11_init_908 : decode cX11_init 908 = .ok (.putfield 97, 3) := by decide +kernel
theorem dX11_init_911 : decode cX11_init 911 = .ok (.aload_n 0, 1) := by decide +kernel
theorem dX11_init_912 : decode cX11_init 912 = .ok (.bipush 19, 2) := by decide +kernel
theorem dX11_init_914 : decode cX11_init 914 = .ok (.newarray .int, 2) := by decide +kernel
theorem dX11_init_916 : decode cX11_init 916 = .ok (.putfield 100, 3) := by decide +kernel
theorem dX11_init_919 : decode cX11_init 919 = .ok (.aload_n 0, 1) := by decide +kernel
theorem dX11_init_920 : decode cX11_init 920 = .ok (.iconst (-1), 1) := by decide +kernel
theorem dX11_init_921 : decode cX11_init 921 = .ok (.putfield 103, 3) := by decide +kernel
theorem dX11_init_924 : decode cX11_init 924 = .ok (.aload_n 0, 1) := by decide +kernel
theorem dX11_init_925 : decode cX11_init 925 = .ok (.getfield 28, 3) := by decide +kernel
theorem dX11_init_928 : decode cX11_init 928 = .ok (.bipush 43, 2) := by decide +kernel
theorem dX11_init_930 : decode cX11_init 930 = .ok (.iconst 1, 1) := by decide +kernel
theorem dX11_init_931 : decode cX11_init 931 = .ok (.iastore, 1) := by decide +kernel
theorem dX11_init_932 : decode cX11_init 932 = .ok (.aload_n 0, 1) := by decide +kernel
theorem dX11_init_933 : decode cX11_init 933 = .ok (.getfield 28, 3) := by decide +kernel
theorem dX11_init_936 : decode cX11_init 936 = .ok (.bipush 48, 2) := by decide +kernel
theorem dX11_init_938 : decode cX11_init 938 = .ok (.iconst (-1), 1) := by decide +kernel
theorem dX11_init_939 : decode cX11_init 939 = .ok (.iastore, 1) := by decide +kernel
theorem dX11_init_940 : decode cX11_init 940 = .ok (.return_, 1) := by decide +kernel
theorem dX11_laysAside_0 : decode cX11_laysAside 0 = .ok (.iconst 0, 1) := by decide +kernel
theorem dX11_laysAside_1 : decode cX11_laysAside 1 = .ok (.istore_n 2, 1) := by decide +kernel
theorem dX11_laysAside_2 : decode cX11_laysAside 2 = .ok (.iload_n 2, 1) := by decide +kernel
theorem dX11_laysAside_3 : decode cX11_laysAside 3 = .ok (.bipush 19, 2) := by decide +kernel
theorem dX11_laysAside_5 : decode cX11_laysAside 5 = .ok (.if_icmp .ge 26, 3) := by decide +kernel
theorem dX11_laysAside_8 : decode cX11_laysAside 8 = .ok (.aload_n 0, 1) := by decide +kernel
theorem dX11_laysAside_9 : decode cX11_laysAside 9 = .ok (.getfield 38, 3) := by decide +kernel
theorem dX11_laysAside_12 : decode cX11_laysAside 12 = .ok (.bipush 19, 2) := by decide +kernel
theorem dX11_laysAside_14 : decode cX11_laysAside 14 = .ok (.iload_n 1, 1) := by decide +kernel
theorem dX11_laysAside_15 : decode cX11_laysAside 15 = .ok (.imul, 1) := by decide +kernel
theorem dX11_laysAside_16 : decode cX11_laysAside 16 = .ok (.iload_n 2, 1) := by decide +kernel
theorem dX11_laysAside_17 : decode cX11_laysAside 17 = .ok (.iadd, 1) := by decide +kernel
theorem dX11_laysAside_18 : decode cX11_laysAside 18 = .ok (.aload_n 0, 1) := by decide +kernel
theorem dX11_laysAside_19 : decode cX11_laysAside 19 = .ok (.getfield 28, 3) := by decide +kernel
theorem dX11_laysAside_22 : decode cX11_laysAside 22 = .ok (.iload_n 2, 1) := by decide +kernel
theorem dX11_laysAside_23 : decode cX11_laysAside 23 = .ok (.iaload, 1) := by decide +kernel
theorem dX11_laysAside_24 : decode cX11_laysAside 24 = .ok (.iastore, 1) := by decide +kernel
theorem dX11_laysAside_25 : decode cX11_laysAside 25 = .ok (.iinc 2 1, 3) := by decide +kernel
theorem dX11_laysAside_28 : decode cX11_laysAside 28 = .ok (.goto (-26), 3) := by decide +kernel
theorem dX11_laysAside_31 : decode cX11_laysAside 31 = .ok (.return_, 1) := by decide +kernel
theorem dX11_takesBack_0 : decode cX11_takesBack 0 = .ok (.iconst 0, 1) := by decide +kernel
theorem dX11_takesBack_1 : decode cX11_takesBack 1 = .ok (.istore_n 2, 1) := by decide +kernel
theorem dX11_takesBack_2 : decode cX11_takesBack 2 = .ok (.iload_n 2, 1) := by decide +kernel
theorem dX11_takesBack_3 : decode cX11_takesBack 3 = .ok (.bipush 19, 2) := by decide +kernel
theorem dX11_takesBack_5 : decode cX11_takesBack 5 = .ok (.if_icmp .ge 26, 3) := by decide +kernel
theorem dX11_takesBack_8 : decode cX11_takesBack 8 = .ok (.aload_n 0, 1) := by decide +kernel
theorem dX11_takesBack_9 : decode cX11_takesBack 9 = .ok (.getfield 28, 3) := by decide +kernel
theorem dX11_takesBack_12 : decode cX11_takesBack 12 = .ok (.iload_n 2, 1) := by decide +kernel
theorem dX11_takesBack_13 : decode cX11_takesBack 13 = .ok (.aload_n 0, 1) := by decide +kernel
theorem dX11_takesBack_14 : decode cX11_takesBack 14 = .ok (.getfield 38, 3) := by decide +kernel
theorem dX11_takesBack_17 : decode cX11_takesBack 17 = .ok (.bipush 19, 2) := by decide +kernel
theorem dX11_takesBack_19 : decode cX11_takesBack 19 = .ok (.iload_n 1, 1) := by decide +kernel
theorem dX11_takesBack_20 : decode cX11_takesBack 20 = .ok (.imul, 1) := by decide +kernel
theorem dX11_takesBack_21 : decode cX11_takesBack 21 = .ok (.iload_n 2, 1) := by decide +kernel
theorem dX11_takesBack_22 : decode cX11_takesBack 22 = .ok (.iadd, 1) := by decide +kernel
theorem dX11_takesBack_23 : decode cX11_takesBack 23 = .ok (.iaload, 1) := by decide +kernel
theorem dX11_takesBack_24 : decode cX11_takesBack 24 = .ok (.iastore, 1) := by decide +kernel
theorem dX11_takesBack_25 : decode cX11_takesBack 25 = .ok (.iinc 2 1, 3) := by decide +kernel
theorem dX11_takesBack_28 : decode cX11_takesBack 28 = .ok (.goto (-26), 3) := by decide +kernel
theorem dX11_takesBack_31 : decode cX11_takesBack 31 = .ok (.return_, 1) := by decide +kernel
theorem dX11_image_0 : decode cX11_image 0 = .ok (.iload_n 1, 1) := by decide +kernel
theorem dX11_image_1 : decode cX11_image 1 = .ok (.iconst 0, 1) := by decide +kernel
theorem dX11_image_2 : decode cX11_image 2 = .ok (.iconst 1, 1) := by decide +kernel
theorem dX11_image_3 : decode cX11_image 3 = .ok (.invokestatic 18, 3) := by decide +kernel
theorem dX11_image_6 : decode cX11_image 6 = .ok (.ifCond .ne 9, 3) := by decide +kernel
theorem dX11_image_9 : decode cX11_image 9 = .ok (.aload_n 0, 1) := by decide +kernel
theorem dX11_image_10 : decode cX11_image 10 = .ok (.iconst (-1), 1) := by decide +kernel
theorem dX11_image_11 : decode cX11_image 11 = .ok (.invokevirtual 106, 3) := by decide +kernel
theorem dX11_image_14 : decode cX11_image 14 = .ok (.ireturn, 1) := by decide +kernel
theorem dX11_image_15 : decode cX11_image 15 = .ok (.iconst 0, 1) := by decide +kernel
theorem dX11_image_16 : decode cX11_image 16 = .ok (.istore_n 2, 1) := by decide +kernel
theorem dX11_image_17 : decode cX11_image 17 = .ok (.iload_n 2, 1) := by decide +kernel
theorem dX11_image_18 : decode cX11_image 18 = .ok (.sipush 5656, 3) := by decide +kernel
theorem dX11_image_21 : decode cX11_image 21 = .ok (.if_icmp .ge 27, 3) := by decide +kernel
theorem dX11_image_24 : decode cX11_image 24 = .ok (.aload_n 0, 1) := by decide +kernel
theorem dX11_image_25 : decode cX11_image 25 = .ok (.getfield 31, 3) := by decide +kernel
theorem dX11_image_28 : decode cX11_image 28 = .ok (.sipush 5656, 3) := by decide +kernel
theorem dX11_image_31 : decode cX11_image 31 = .ok (.iload_n 1, 1) := by decide +kernel
theorem dX11_image_32 : decode cX11_image 32 = .ok (.imul, 1) := by decide +kernel
theorem dX11_image_33 : decode cX11_image 33 = .ok (.iload_n 2, 1) := by decide +kernel
theorem dX11_image_34 : decode cX11_image 34 = .ok (.iadd, 1) := by decide +kernel
theorem dX11_image_35 : decode cX11_image 35 = .ok (.aload_n 0, 1) := by decide +kernel
theorem dX11_image_36 : decode cX11_image 36 = .ok (.getfield 28, 3) := by decide +kernel
theorem dX11_image_39 : decode cX11_image 39 = .ok (.iload_n 2, 1) := by decide +kernel
theorem dX11_image_40 : decode cX11_image 40 = .ok (.iaload, 1) := by decide +kernel
theorem dX11_image_41 : decode cX11_image 41 = .ok (.iastore, 1) := by decide +kernel
theorem dX11_image_42 : decode cX11_image 42 = .ok (.iinc 2 1, 3) := by decide +kernel
theorem dX11_image_45 : decode cX11_image 45 = .ok (.goto (-28), 3) := by decide +kernel
theorem dX11_image_48 : decode cX11_image 48 = .ok (.aload_n 0, 1) := by decide +kernel
theorem dX11_image_49 : decode cX11_image 49 = .ok (.getfield 34, 3) := by decide +kernel
theorem dX11_image_52 : decode cX11_image 52 = .ok (.iload_n 1, 1) := by decide +kernel
theorem dX11_image_53 : decode cX11_image 53 = .ok (.iconst 1, 1) := by decide +kernel
theorem dX11_image_54 : decode cX11_image 54 = .ok (.bastore, 1) := by decide +kernel
theorem dX11_image_55 : decode cX11_image 55 = .ok (.aload_n 0, 1) := by decide +kernel
theorem dX11_image_56 : decode cX11_image 56 = .ok (.iconst 0, 1) := by decide +kernel
theorem dX11_image_57 : decode cX11_image 57 = .ok (.invokevirtual 14, 3) := by decide +kernel
theorem dX11_image_60 : decode cX11_image 60 = .ok (.ireturn, 1) := by decide +kernel
theorem dX11_back_0 : decode cX11_back 0 = .ok (.iload_n 1, 1) := by decide +kernel
theorem dX11_back_1 : decode cX11_back 1 = .ok (.iconst 0, 1) := by decide +kernel
theorem dX11_back_2 : decode cX11_back 2 = .ok (.iconst 1, 1) := by decide +kernel
theorem dX11_back_3 : decode cX11_back 3 = .ok (.invokestatic 18, 3) := by decide +kernel
theorem dX11_back_6 : decode cX11_back 6 = .ok (.ifCond .ne 9, 3) := by decide +kernel
theorem dX11_back_9 : decode cX11_back 9 = .ok (.aload_n 0, 1) := by decide +kernel
theorem dX11_back_10 : decode cX11_back 10 = .ok (.iconst (-1), 1) := by decide +kernel
theorem dX11_back_11 : decode cX11_back 11 = .ok (.invokevirtual 106, 3) := by decide +kernel
theorem dX11_back_14 : decode cX11_back 14 = .ok (.ireturn, 1) := by decide +kernel
theorem dX11_back_15 : decode cX11_back 15 = .ok (.aload_n 0, 1) := by decide +kernel
theorem dX11_back_16 : decode cX11_back 16 = .ok (.getfield 34, 3) := by decide +kernel
theorem dX11_back_19 : decode cX11_back 19 = .ok (.iload_n 1, 1) := by decide +kernel
theorem dX11_back_20 : decode cX11_back 20 = .ok (.baload, 1) := by decide +kernel
theorem dX11_back_21 : decode cX11_back 21 = .ok (.ifCond .ne 10, 3) := by decide +kernel
theorem dX11_back_24 : decode cX11_back 24 = .ok (.aload_n 0, 1) := by decide +kernel
theorem dX11_back_25 : decode cX11_back 25 = .ok (.bipush (-2), 2) := by decide +kernel
theorem dX11_back_27 : decode cX11_back 27 = .ok (.invokevirtual 106, 3) := by decide +kernel
theorem dX11_back_30 : decode cX11_back 30 = .ok (.ireturn, 1) := by decide +kernel
theorem dX11_back_31 : decode cX11_back 31 = .ok (.iconst 0, 1) := by decide +kernel
theorem dX11_back_32 : decode cX11_back 32 = .ok (.istore_n 2, 1) := by decide +kernel
theorem dX11_back_33 : decode cX11_back 33 = .ok (.iload_n 2, 1) := by decide +kernel
theorem dX11_back_34 : decode cX11_back 34 = .ok (.sipush 5656, 3) := by decide +kernel
theorem dX11_back_37 : decode cX11_back 37 = .ok (.if_icmp .ge 27, 3) := by decide +kernel
theorem dX11_back_40 : decode cX11_back 40 = .ok (.aload_n 0, 1) := by decide +kernel
theorem dX11_back_41 : decode cX11_back 41 = .ok (.getfield 28, 3) := by decide +kernel
theorem dX11_back_44 : decode cX11_back 44 = .ok (.iload_n 2, 1) := by decide +kernel
theorem dX11_back_45 : decode cX11_back 45 = .ok (.aload_n 0, 1) := by decide +kernel
theorem dX11_back_46 : decode cX11_back 46 = .ok (.getfield 31, 3) := by decide +kernel
theorem dX11_back_49 : decode cX11_back 49 = .ok (.sipush 5656, 3) := by decide +kernel
theorem dX11_back_52 : decode cX11_back 52 = .ok (.iload_n 1, 1) := by decide +kernel
theorem dX11_back_53 : decode cX11_back 53 = .ok (.imul, 1) := by decide +kernel
theorem dX11_back_54 : decode cX11_back 54 = .ok (.iload_n 2, 1) := by decide +kernel
theorem dX11_back_55 : decode cX11_back 55 = .ok (.iadd, 1) := by decide +kernel
theorem dX11_back_56 : decode cX11_back 56 = .ok (.iaload, 1) := by decide +kernel
theorem dX11_back_57 : decode cX11_back 57 = .ok (.iastore, 1) := by decide +kernel
theorem dX11_back_58 : decode cX11_back 58 = .ok (.iinc 2 1, 3) := by decide +kernel
theorem dX11_back_61 : decode cX11_back 61 = .ok (.goto (-28), 3) := by decide +kernel
theorem dX11_back_64 : decode cX11_back 64 = .ok (.aload_n 0, 1) := by decide +kernel
theorem dX11_back_65 : decode cX11_back 65 = .ok (.iconst 0, 1) := by decide +kernel
theorem dX11_back_66 : decode cX11_back 66 = .ok (.invokevirtual 109, 3) := by decide +kernel
theorem dX11_back_69 : decode cX11_back 69 = .ok (.ireturn, 1) := by decide +kernel
theorem dX11_drumMany_0 : decode cX11_drumMany 0 = .ok (.aload_n 0, 1) := by decide +kernel
theorem dX11_drumMany_1 : decode cX11_drumMany 1 = .ok (.getfield 28, 3) := by decide +kernel
theorem dX11_drumMany_4 : decode cX11_drumMany 4 = .ok (.bipush 45, 2) := by decide +kernel
theorem dX11_drumMany_6 : decode cX11_drumMany 6 = .ok (.iaload, 1) := by decide +kernel
theorem dX11_drumMany_7 : decode cX11_drumMany 7 = .ok (.ireturn, 1) := by decide +kernel
theorem dX11_isDrum_0 : decode cX11_isDrum 0 = .ok (.iload_n 1, 1) := by decide +kernel
theorem dX11_isDrum_1 : decode cX11_isDrum 1 = .ok (.iconst 0, 1) := by decide +kernel
theorem dX11_isDrum_2 : decode cX11_isDrum 2 = .ok (.aload_n 0, 1) := by decide +kernel
theorem dX11_isDrum_3 : decode cX11_isDrum 3 = .ok (.invokevirtual 112, 3) := by decide +kernel
theorem dX11_isDrum_6 : decode cX11_isDrum 6 = .ok (.iconst 1, 1) := by decide +kernel
theorem dX11_isDrum_7 : decode cX11_isDrum 7 = .ok (.isub, 1) := by decide +kernel
theorem dX11_isDrum_8 : decode cX11_isDrum 8 = .ok (.invokestatic 18, 3) := by decide +kernel
theorem dX11_isDrum_11 : decode cX11_isDrum 11 = .ok (.ireturn, 1) := by decide +kernel
theorem dX11_isStopped_0 : decode cX11_isStopped 0 = .ok (.aload_n 0, 1) := by decide +kernel
theorem dX11_isStopped_1 : decode cX11_isStopped 1 = .ok (.getfield 28, 3) := by decide +kernel
theorem dX11_isStopped_4 : decode cX11_isStopped 4 = .ok (.bipush 12, 2) := by decide +kernel
theorem dX11_isStopped_6 : decode cX11_isStopped 6 = .ok (.iload_n 1, 1) := by decide +kernel
theorem dX11_isStopped_7 : decode cX11_isStopped 7 = .ok (.iadd, 1) := by decide +kernel
theorem dX11_isStopped_8 : decode cX11_isStopped 8 = .ok (.iaload, 1) := by decide +kernel
theorem dX11_isStopped_9 : decode cX11_isStopped 9 = .ok (.iconst 1, 1) := by decide +kernel
theorem dX11_isStopped_10 : decode cX11_isStopped 10 = .ok (.if_icmp .ne 7, 3) := by decide +kernel
theorem dX11_isStopped_13 : decode cX11_isStopped 13 = .ok (.iconst 1, 1) := by decide +kernel
theorem dX11_isStopped_14 : decode cX11_isStopped 14 = .ok (.goto 4, 3) := by decide +kernel
theorem dX11_isStopped_17 : decode cX11_isStopped 17 = .ok (.iconst 0, 1) := by decide +kernel
theorem dX11_isStopped_18 : decode cX11_isStopped 18 = .ok (.ireturn, 1) := by decide +kernel
theorem dX11_hasPin_0 : decode cX11_hasPin 0 = .ok (.aload_n 0, 1) := by decide +kernel
theorem dX11_hasPin_1 : decode cX11_hasPin 1 = .ok (.getfield 28, 3) := by decide +kernel
theorem dX11_hasPin_4 : decode cX11_hasPin 4 = .ok (.iconst 0, 1) := by decide +kernel
theorem dX11_hasPin_5 : decode cX11_hasPin 5 = .ok (.iload_n 1, 1) := by decide +kernel
theorem dX11_hasPin_6 : decode cX11_hasPin 6 = .ok (.iadd, 1) := by decide +kernel
theorem dX11_hasPin_7 : decode cX11_hasPin 7 = .ok (.iaload, 1) := by decide +kernel
theorem dX11_hasPin_8 : decode cX11_hasPin 8 = .ok (.iload_n 2, 1) := by decide +kernel
theorem dX11_hasPin_9 : decode cX11_hasPin 9 = .ok (.invokestatic 116, 3) := by decide +kernel
theorem dX11_hasPin_12 : decode cX11_hasPin 12 = .ok (.ireturn, 1) := by decide +kernel
theorem dX11_canDrum_0 : decode cX11_canDrum 0 = .ok (.iload_n 0, 1) := by decide +kernel
theorem dX11_canDrum_1 : decode cX11_canDrum 1 = .ok (.iconst 1, 1) := by decide +kernel
theorem dX11_canDrum_2 : decode cX11_canDrum 2 = .ok (.bipush 12, 2) := by decide +kernel
theorem dX11_canDrum_4 : decode cX11_canDrum 4 = .ok (.invokestatic 18, 3) := by decide +kernel
theorem dX11_canDrum_7 : decode cX11_canDrum 7 = .ok (.ifCond .eq 40, 3) := by decide +kernel
theorem dX11_canDrum_10 : decode cX11_canDrum 10 = .ok (.iload_n 1, 1) := by decide +kernel
theorem dX11_canDrum_11 : decode cX11_canDrum 11 = .ok (.iconst 0, 1) := by decide +kernel
theorem dX11_canDrum_12 : decode cX11_canDrum 12 = .ok (.iconst 3, 1) := by decide +kernel
theorem dX11_canDrum_13 : decode cX11_canDrum 13 = .ok (.invokestatic 18, 3) := by decide +kernel
theorem dX11_canDrum_16 : decode cX11_canDrum 16 = .ok (.ifCond .eq 31, 3) := by decide +kernel
theorem dX11_canDrum_19 : decode cX11_canDrum 19 = .ok (.iload_n 2, 1) := by decide +kernel
theorem dX11_canDrum_20 : decode cX11_canDrum 20 = .ok (.iconst 0, 1) := by decide +kernel
theorem dX11_canDrum_21 : decode cX11_canDrum 21 = .ok (.iload_n 0, 1) := by decide +kernel
theorem dX11_canDrum_22 : decode cX11_canDrum 22 = .ok (.iconst 1, 1) := by decide +kernel
theorem dX11_canDrum_23 : decode cX11_canDrum 23 = .ok (.isub, 1) := by decide +kernel
theorem dX11_canDrum_24 : decode cX11_canDrum 24 = .ok (.invokestatic 18, 3) := by decide +kernel
theorem dX11_canDrum_27 : decode cX11_canDrum 27 = .ok (.ifCond .eq 20, 3) := by decide +kernel
theorem dX11_canDrum_30 : decode cX11_canDrum 30 = .ok (.iload_n 3, 1) := by decide +kernel
theorem dX11_canDrum_31 : decode cX11_canDrum 31 = .ok (.iconst 0, 1) := by decide +kernel
theorem dX11_canDrum_32 : decode cX11_canDrum 32 = .ok (.iconst 1, 1) := by decide +kernel
theorem dX11_canDrum_33 : decode cX11_canDrum 33 = .ok (.iload_n 0, 1) := by decide +kernel
theorem dX11_canDrum_34 : decode cX11_canDrum 34 = .ok (.ishl, 1) := by decide +kernel
theorem dX11_canDrum_35 : decode cX11_canDrum 35 = .ok (.iconst 1, 1) := by decide +kernel
theorem dX11_canDrum_36 : decode cX11_canDrum 36 = .ok (.isub, 1) := by decide +kernel
theorem dX11_canDrum_37 : decode cX11_canDrum 37 = .ok (.invokestatic 18, 3) := by decide +kernel
theorem dX11_canDrum_40 : decode cX11_canDrum 40 = .ok (.ifCond .eq 7, 3) := by decide +kernel
theorem dX11_canDrum_43 : decode cX11_canDrum 43 = .ok (.iconst 1, 1) := by decide +kernel
theorem dX11_canDrum_44 : decode cX11_canDrum 44 = .ok (.goto 4, 3) := by decide +kernel
theorem dX11_canDrum_47 : decode cX11_canDrum 47 = .ok (.iconst 0, 1) := by decide +kernel
theorem dX11_canDrum_48 : decode cX11_canDrum 48 = .ok (.ireturn, 1) := by decide +kernel
theorem dX11_adds_0 : decode cX11_adds 0 = .ok (.aload_n 0, 1) := by decide +kernel
theorem dX11_adds_1 : decode cX11_adds 1 = .ok (.invokevirtual 112, 3) := by decide +kernel
theorem dX11_adds_4 : decode cX11_adds 4 = .ok (.istore 5, 2) := by decide +kernel
theorem dX11_adds_6 : decode cX11_adds 6 = .ok (.aload_n 0, 1) := by decide +kernel
theorem dX11_adds_7 : decode cX11_adds 7 = .ok (.getfield 28, 3) := by decide +kernel
theorem dX11_adds_10 : decode cX11_adds 10 = .ok (.bipush 19, 2) := by decide +kernel
theorem dX11_adds_12 : decode cX11_adds 12 = .ok (.iload 5, 2) := by decide +kernel
theorem dX11_adds_14 : decode cX11_adds 14 = .ok (.iadd, 1) := by decide +kernel
theorem dX11_adds_15 : decode cX11_adds 15 = .ok (.iload_n 1, 1) := by decide +kernel
theorem dX11_adds_16 : decode cX11_adds 16 = .ok (.iastore, 1) := by decide +kernel
theorem dX11_adds_17 : decode cX11_adds 17 = .ok (.aload_n 0, 1) := by decide +kernel
theorem dX11_adds_18 : decode cX11_adds 18 = .ok (.getfield 28, 3) := by decide +kernel
theorem dX11_adds_21 : decode cX11_adds 21 = .ok (.bipush 25, 2) := by decide +kernel
theorem dX11_adds_23 : decode cX11_adds 23 = .ok (.iload 5, 2) := by decide +kernel
theorem dX11_adds_25 : decode cX11_adds 25 = .ok (.iadd, 1) := by decide +kernel
theorem dX11_adds_26 : decode cX11_adds 26 = .ok (.iload_n 2, 1) := by decide +kernel
theorem dX11_adds_27 : decode cX11_adds 27 = .ok (.iastore, 1) := by decide +kernel
theorem dX11_adds_28 : decode cX11_adds 28 = .ok (.aload_n 0, 1) := by decide +kernel
theorem dX11_adds_29 : decode cX11_adds 29 = .ok (.getfield 28, 3) := by decide +kernel
theorem dX11_adds_32 : decode cX11_adds 32 = .ok (.bipush 6, 2) := by decide +kernel
theorem dX11_adds_34 : decode cX11_adds 34 = .ok (.iload 5, 2) := by decide +kernel
theorem dX11_adds_36 : decode cX11_adds 36 = .ok (.iadd, 1) := by decide +kernel
theorem dX11_adds_37 : decode cX11_adds 37 = .ok (.iload_n 3, 1) := by decide +kernel
theorem dX11_adds_38 : decode cX11_adds 38 = .ok (.iastore, 1) := by decide +kernel
theorem dX11_adds_39 : decode cX11_adds 39 = .ok (.aload_n 0, 1) := by decide +kernel
theorem dX11_adds_40 : decode cX11_adds 40 = .ok (.getfield 28, 3) := by decide +kernel
theorem dX11_adds_43 : decode cX11_adds 43 = .ok (.iconst 0, 1) := by decide +kernel
theorem dX11_adds_44 : decode cX11_adds 44 = .ok (.iload 5, 2) := by decide +kernel
theorem dX11_adds_46 : decode cX11_adds 46 = .ok (.iadd, 1) := by decide +kernel
theorem dX11_adds_47 : decode cX11_adds 47 = .ok (.iload 4, 2) := by decide +kernel
theorem dX11_adds_49 : decode cX11_adds 49 = .ok (.iastore, 1) := by decide +kernel
theorem dX11_adds_50 : decode cX11_adds 50 = .ok (.aload_n 0, 1) := by decide +kernel
theorem dX11_adds_51 : decode cX11_adds 51 = .ok (.getfield 28, 3) := by decide +kernel
theorem dX11_adds_54 : decode cX11_adds 54 = .ok (.bipush 12, 2) := by decide +kernel
theorem dX11_adds_56 : decode cX11_adds 56 = .ok (.iload 5, 2) := by decide +kernel
theorem dX11_adds_58 : decode cX11_adds 58 = .ok (.iadd, 1) := by decide +kernel
theorem dX11_adds_59 : decode cX11_adds 59 = .ok (.iconst 0, 1) := by decide +kernel
theorem dX11_adds_60 : decode cX11_adds 60 = .ok (.iastore, 1) := by decide +kernel
theorem dX11_adds_61 : decode cX11_adds 61 = .ok (.aload_n 0, 1) := by decide +kernel
theorem dX11_adds_62 : decode cX11_adds 62 = .ok (.getfield 28, 3) := by decide +kernel
theorem dX11_adds_65 : decode cX11_adds 65 = .ok (.bipush 45, 2) := by decide +kernel
theorem dX11_adds_67 : decode cX11_adds 67 = .ok (.dup2, 1) := by decide +kernel
theorem dX11_adds_68 : decode cX11_adds 68 = .ok (.iaload, 1) := by decide +kernel
theorem dX11_adds_69 : decode cX11_adds 69 = .ok (.iconst 1, 1) := by decide +kernel
theorem dX11_adds_70 : decode cX11_adds 70 = .ok (.iadd, 1) := by decide +kernel
theorem dX11_adds_71 : decode cX11_adds 71 = .ok (.iastore, 1) := by decide +kernel
theorem dX11_adds_72 : decode cX11_adds 72 = .ok (.return_, 1) := by decide +kernel
theorem dX11_drum_0 : decode cX11_drum 0 = .ok (.iload_n 1, 1) := by decide +kernel
theorem dX11_drum_1 : decode cX11_drum 1 = .ok (.iload_n 2, 1) := by decide +kernel
theorem dX11_drum_2 : decode cX11_drum 2 = .ok (.iload_n 3, 1) := by decide +kernel
theorem dX11_drum_3 : decode cX11_drum 3 = .ok (.iload 4, 2) := by decide +kernel
theorem dX11_drum_5 : decode cX11_drum 5 = .ok (.invokestatic 120, 3) := by decide +kernel
theorem dX11_drum_8 : decode cX11_drum 8 = .ok (.ifCond .ne 9, 3) := by decide +kernel
theorem dX11_drum_11 : decode cX11_drum 11 = .ok (.aload_n 0, 1) := by decide +kernel
theorem dX11_drum_12 : decode cX11_drum 12 = .ok (.iconst (-1), 1) := by decide +kernel
theorem dX11_drum_13 : decode cX11_drum 13 = .ok (.invokevirtual 106, 3) := by decide +kernel
theorem dX11_drum_16 : decode cX11_drum 16 = .ok (.ireturn, 1) := by decide +kernel
theorem dX11_drum_17 : decode cX11_drum 17 = .ok (.aload_n 0, 1) := by decide +kernel
theorem dX11_drum_18 : decode cX11_drum 18 = .ok (.invokevirtual 112, 3) := by decide +kernel
theorem dX11_drum_21 : decode cX11_drum 21 = .ok (.bipush 6, 2) := by decide +kernel
theorem dX11_drum_23 : decode cX11_drum 23 = .ok (.if_icmp .ne 10, 3) := by decide +kernel
theorem dX11_drum_26 : decode cX11_drum 26 = .ok (.aload_n 0, 1) := by decide +kernel
theorem dX11_drum_27 : decode cX11_drum 27 = .ok (.bipush (-5), 2) := by decide +kernel
theorem dX11_drum_29 : decode cX11_drum 29 = .ok (.invokevirtual 106, 3) := by decide +kernel
theorem dX11_drum_32 : decode cX11_drum 32 = .ok (.ireturn, 1) := by decide +kernel
theorem dX11_drum_33 : decode cX11_drum 33 = .ok (.aload_n 0, 1) := by decide +kernel
theorem dX11_drum_34 : decode cX11_drum 34 = .ok (.iload_n 1, 1) := by decide +kernel
theorem dX11_drum_35 : decode cX11_drum 35 = .ok (.iload_n 2, 1) := by decide +kernel
theorem dX11_drum_36 : decode cX11_drum 36 = .ok (.iload_n 3, 1) := by decide +kernel
theorem dX11_drum_37 : decode cX11_drum 37 = .ok (.iload 4, 2) := by decide +kernel
theorem dX11_drum_39 : decode cX11_drum 39 = .ok (.invokevirtual 124, 3) := by decide +kernel
theorem dX11_drum_42 : decode cX11_drum 42 = .ok (.aload_n 0, 1) := by decide +kernel
theorem dX11_drum_43 : decode cX11_drum 43 = .ok (.aload_n 0, 1) := by decide +kernel
theorem dX11_drum_44 : decode cX11_drum 44 = .ok (.invokevirtual 112, 3) := by decide +kernel
theorem dX11_drum_47 : decode cX11_drum 47 = .ok (.iconst 1, 1) := by decide +kernel
theorem dX11_drum_48 : decode cX11_drum 48 = .ok (.isub, 1) := by decide +kernel
theorem dX11_drum_49 : decode cX11_drum 49 = .ok (.invokevirtual 109, 3) := by decide +kernel
theorem dX11_drum_52 : decode cX11_drum 52 = .ok (.ireturn, 1) := by decide +kernel
theorem dX11_of_0 : decode cX11_of 0 = .ok (.aload_n 0, 1) := by decide +kernel
theorem dX11_of_1 : decode cX11_of 1 = .ok (.iload_n 1, 1) := by decide +kernel
theorem dX11_of_2 : decode cX11_of 2 = .ok (.invokevirtual 128, 3) := by decide +kernel
theorem dX11_of_5 : decode cX11_of 5 = .ok (.ifCond .ne 5, 3) := by decide +kernel
theorem dX11_of_8 : decode cX11_of 8 = .ok (.iconst (-1), 1) := by decide +kernel
theorem dX11_of_9 : decode cX11_of 9 = .ok (.ireturn, 1) := by decide +kernel
theorem dX11_of_10 : decode cX11_of 10 = .ok (.iload_n 2, 1) := by decide +kernel
theorem dX11_of_11 : decode cX11_of 11 = .ok (.tableswitch 101 0 5 #[37, 47, 57, 67, 76, 86], 37) := by decide +kernel
theorem dX11_of_48 : decode cX11_of 48 = .ok (.aload_n 0, 1) := by decide +kernel
theorem dX11_of_49 : decode cX11_of 49 = .ok (.getfield 28, 3) := by decide +kernel
theorem dX11_of_52 : decode cX11_of 52 = .ok (.bipush 19, 2) := by decide +kernel
theorem dX11_of_54 : decode cX11_of 54 = .ok (.iload_n 1, 1) := by decide +kernel
theorem dX11_of_55 : decode cX11_of 55 = .ok (.iadd, 1) := by decide +kernel
theorem dX11_of_56 : decode cX11_of 56 = .ok (.iaload, 1) := by decide +kernel
theorem dX11_of_57 : decode cX11_of 57 = .ok (.ireturn, 1) := by decide +kernel
theorem dX11_of_58 : decode cX11_of 58 = .ok (.aload_n 0, 1) := by decide +kernel
theorem dX11_of_59 : decode cX11_of 59 = .ok (.getfield 28, 3) := by decide +kernel
theorem dX11_of_62 : decode cX11_of 62 = .ok (.bipush 25, 2) := by decide +kernel
theorem dX11_of_64 : decode cX11_of 64 = .ok (.iload_n 1, 1) := by decide +kernel
theorem dX11_of_65 : decode cX11_of 65 = .ok (.iadd, 1) := by decide +kernel
theorem dX11_of_66 : decode cX11_of 66 = .ok (.iaload, 1) := by decide +kernel
theorem dX11_of_67 : decode cX11_of 67 = .ok (.ireturn, 1) := by decide +kernel
theorem dX11_of_68 : decode cX11_of 68 = .ok (.aload_n 0, 1) := by decide +kernel
theorem dX11_of_69 : decode cX11_of 69 = .ok (.getfield 28, 3) := by decide +kernel
theorem dX11_of_72 : decode cX11_of 72 = .ok (.bipush 6, 2) := by decide +kernel
theorem dX11_of_74 : decode cX11_of 74 = .ok (.iload_n 1, 1) := by decide +kernel
theorem dX11_of_75 : decode cX11_of 75 = .ok (.iadd, 1) := by decide +kernel
theorem dX11_of_76 : decode cX11_of 76 = .ok (.iaload, 1) := by decide +kernel
theorem dX11_of_77 : decode cX11_of 77 = .ok (.ireturn, 1) := by decide +kernel
theorem dX11_of_78 : decode cX11_of 78 = .ok (.aload_n 0, 1) := by decide +kernel
theorem dX11_of_79 : decode cX11_of 79 = .ok (.getfield 28, 3) := by decide +kernel
theorem dX11_of_82 : decode cX11_of 82 = .ok (.iconst 0, 1) := by decide +kernel
theorem dX11_of_83 : decode cX11_of 83 = .ok (.iload_n 1, 1) := by decide +kernel
theorem dX11_of_84 : decode cX11_of 84 = .ok (.iadd, 1) := by decide +kernel
theorem dX11_of_85 : decode cX11_of 85 = .ok (.iaload, 1) := by decide +kernel
theorem dX11_of_86 : decode cX11_of 86 = .ok (.ireturn, 1) := by decide +kernel
theorem dX11_of_87 : decode cX11_of 87 = .ok (.aload_n 0, 1) := by decide +kernel
theorem dX11_of_88 : decode cX11_of 88 = .ok (.getfield 28, 3) := by decide +kernel
theorem dX11_of_91 : decode cX11_of 91 = .ok (.bipush 12, 2) := by decide +kernel
theorem dX11_of_93 : decode cX11_of 93 = .ok (.iload_n 1, 1) := by decide +kernel
theorem dX11_of_94 : decode cX11_of 94 = .ok (.iadd, 1) := by decide +kernel
theorem dX11_of_95 : decode cX11_of 95 = .ok (.iaload, 1) := by decide +kernel
theorem dX11_of_96 : decode cX11_of 96 = .ok (.ireturn, 1) := by decide +kernel
theorem dX11_of_97 : decode cX11_of 97 = .ok (.aload_n 0, 1) := by decide +kernel
theorem dX11_of_98 : decode cX11_of 98 = .ok (.iload_n 1, 1) := by decide +kernel
theorem dX11_of_99 : decode cX11_of 99 = .ok (.iconst 0, 1) := by decide +kernel
theorem dX11_of_100 : decode cX11_of 100 = .ok (.invokevirtual 132, 3) := by decide +kernel
theorem dX11_of_103 : decode cX11_of 103 = .ok (.ifCond .eq 7, 3) := by decide +kernel
theorem dX11_of_106 : decode cX11_of 106 = .ok (.iconst 1, 1) := by decide +kernel
theorem dX11_of_107 : decode cX11_of 107 = .ok (.goto 4, 3) := by decide +kernel
theorem dX11_of_110 : decode cX11_of 110 = .ok (.iconst 0, 1) := by decide +kernel
theorem dX11_of_111 : decode cX11_of 111 = .ok (.ireturn, 1) := by decide +kernel
theorem dX11_of_112 : decode cX11_of 112 = .ok (.iconst (-1), 1) := by decide +kernel
theorem dX11_of_113 : decode cX11_of 113 = .ok (.ireturn, 1) := by decide +kernel
theorem dX11_isBeat_0 : decode cX11_isBeat 0 = .ok (.iload_n 2, 1) := by decide +kernel
theorem dX11_isBeat_1 : decode cX11_isBeat 1 = .ok (.iconst 0, 1) := by decide +kernel
theorem dX11_isBeat_2 : decode cX11_isBeat 2 = .ok (.aload_n 0, 1) := by decide +kernel
theorem dX11_isBeat_3 : decode cX11_isBeat 3 = .ok (.getfield 28, 3) := by decide +kernel
theorem dX11_isBeat_6 : decode cX11_isBeat 6 = .ok (.bipush 19, 2) := by decide +kernel
theorem dX11_isBeat_8 : decode cX11_isBeat 8 = .ok (.iload_n 1, 1) := by decide +kernel
theorem dX11_isBeat_9 : decode cX11_isBeat 9 = .ok (.iadd, 1) := by decide +kernel
theorem dX11_isBeat_10 : decode cX11_isBeat 10 = .ok (.iaload, 1) := by decide +kernel
theorem dX11_isBeat_11 : decode cX11_isBeat 11 = .ok (.iconst 1, 1) := by decide +kernel
theorem dX11_isBeat_12 : decode cX11_isBeat 12 = .ok (.isub, 1) := by decide +kernel
theorem dX11_isBeat_13 : decode cX11_isBeat 13 = .ok (.invokestatic 18, 3) := by decide +kernel
theorem dX11_isBeat_16 : decode cX11_isBeat 16 = .ok (.ireturn, 1) := by decide +kernel
theorem dX11_asks_0 : decode cX11_asks 0 = .ok (.aload_n 0, 1) := by decide +kernel
theorem dX11_asks_1 : decode cX11_asks 1 = .ok (.iload_n 1, 1) := by decide +kernel
theorem dX11_asks_2 : decode cX11_asks 2 = .ok (.invokevirtual 128, 3) := by decide +kernel
theorem dX11_asks_5 : decode cX11_asks 5 = .ok (.ifCond .eq 12, 3) := by decide +kernel
theorem dX11_asks_8 : decode cX11_asks 8 = .ok (.aload_n 0, 1) := by decide +kernel
theorem dX11_asks_9 : decode cX11_asks 9 = .ok (.iload_n 1, 1) := by decide +kernel
theorem dX11_asks_10 : decode cX11_asks 10 = .ok (.iload_n 2, 1) := by decide +kernel
theorem dX11_asks_11 : decode cX11_asks 11 = .ok (.invokevirtual 135, 3) := by decide +kernel
theorem dX11_asks_14 : decode cX11_asks 14 = .ok (.ifCond .ne 5, 3) := by decide +kernel
theorem dX11_asks_17 : decode cX11_asks 17 = .ok (.iconst (-1), 1) := by decide +kernel
theorem dX11_asks_18 : decode cX11_asks 18 = .ok (.ireturn, 1) := by decide +kernel
theorem dX11_asks_19 : decode cX11_asks 19 = .ok (.iload_n 3, 1) := by decide +kernel
theorem dX11_asks_20 : decode cX11_asks 20 = .ok (.tableswitch 67 0 2 #[28, 35, 51], 28) := by decide +kernel
theorem dX11_asks_48 : decode cX11_asks 48 = .ok (.aload_n 0, 1) := by decide +kernel
theorem dX11_asks_49 : decode cX11_asks 49 = .ok (.iload_n 1, 1) := by decide +kernel
theorem dX11_asks_50 : decode cX11_asks 50 = .ok (.iload_n 2, 1) := by decide +kernel
theorem dX11_asks_51 : decode cX11_asks 51 = .ok (.invokevirtual 138, 3) := by decide +kernel
theorem dX11_asks_54 : decode cX11_asks 54 = .ok (.ireturn, 1) := by decide +kernel
theorem dX11_asks_55 : decode cX11_asks 55 = .ok (.aload_n 0, 1) := by decide +kernel
theorem dX11_asks_56 : decode cX11_asks 56 = .ok (.iconst 2, 1) := by decide +kernel
theorem dX11_asks_57 : decode cX11_asks 57 = .ok (.iload_n 1, 1) := by decide +kernel
theorem dX11_asks_58 : decode cX11_asks 58 = .ok (.iload_n 2, 1) := by decide +kernel
theorem dX11_asks_59 : decode cX11_asks 59 = .ok (.invokevirtual 142, 3) := by decide +kernel
theorem dX11_asks_62 : decode cX11_asks 62 = .ok (.ifCond .eq 7, 3) := by decide +kernel
theorem dX11_asks_65 : decode cX11_asks 65 = .ok (.iconst 1, 1) := by decide +kernel
theorem dX11_asks_66 : decode cX11_asks 66 = .ok (.goto 4, 3) := by decide +kernel
theorem dX11_asks_69 : decode cX11_asks 69 = .ok (.iconst 0, 1) := by decide +kernel
theorem dX11_asks_70 : decode cX11_asks 70 = .ok (.ireturn, 1) := by decide +kernel
theorem dX11_asks_71 : decode cX11_asks 71 = .ok (.aload_n 0, 1) := by decide +kernel
theorem dX11_asks_72 : decode cX11_asks 72 = .ok (.iconst 3, 1) := by decide +kernel
theorem dX11_asks_73 : decode cX11_asks 73 = .ok (.iload_n 1, 1) := by decide +kernel
theorem dX11_asks_74 : decode cX11_asks 74 = .ok (.iload_n 2, 1) := by decide +kernel
theorem dX11_asks_75 : decode cX11_asks 75 = .ok (.invokevirtual 142, 3) := by decide +kernel
theorem dX11_asks_78 : decode cX11_asks 78 = .ok (.ifCond .eq 7, 3) := by decide +kernel
theorem dX11_asks_81 : decode cX11_asks 81 = .ok (.iconst 1, 1) := by decide +kernel
theorem dX11_asks_82 : decode cX11_asks 82 = .ok (.goto 4, 3) := by decide +kernel
theorem dX11_asks_85 : decode cX11_asks 85 = .ok (.iconst 0, 1) := by decide +kernel
theorem dX11_asks_86 : decode cX11_asks 86 = .ok (.ireturn, 1) := by decide +kernel
theorem dX11_asks_87 : decode cX11_asks 87 = .ok (.iconst (-1), 1) := by decide +kernel
theorem dX11_asks_88 : decode cX11_asks 88 = .ok (.ireturn, 1) := by decide +kernel
theorem dX11_isTerm_0 : decode cX11_isTerm 0 = .ok (.iload_n 0, 1) := by decide +kernel
theorem dX11_isTerm_1 : decode cX11_isTerm 1 = .ok (.tableswitch 52 0 2 #[27, 36, 44], 27) := by decide +kernel
theorem dX11_isTerm_28 : decode cX11_isTerm 28 = .ok (.iload_n 1, 1) := by decide +kernel
theorem dX11_isTerm_29 : decode cX11_isTerm 29 = .ok (.iconst 0, 1) := by decide +kernel
theorem dX11_isTerm_30 : decode cX11_isTerm 30 = .ok (.sipush 999, 3) := by decide +kernel
theorem dX11_isTerm_33 : decode cX11_isTerm 33 = .ok (.invokestatic 18, 3) := by decide +kernel
theorem dX11_isTerm_36 : decode cX11_isTerm 36 = .ok (.ireturn, 1) := by decide +kernel
theorem dX11_isTerm_37 : decode cX11_isTerm 37 = .ok (.iload_n 1, 1) := by decide +kernel
theorem dX11_isTerm_38 : decode cX11_isTerm 38 = .ok (.iconst 0, 1) := by decide +kernel
theorem dX11_isTerm_39 : decode cX11_isTerm 39 = .ok (.bipush 10, 2) := by decide +kernel
theorem dX11_isTerm_41 : decode cX11_isTerm 41 = .ok (.invokestatic 18, 3) := by decide +kernel
theorem dX11_isTerm_44 : decode cX11_isTerm 44 = .ok (.ireturn, 1) := by decide +kernel
theorem dX11_isTerm_45 : decode cX11_isTerm 45 = .ok (.iload_n 1, 1) := by decide +kernel
theorem dX11_isTerm_46 : decode cX11_isTerm 46 = .ok (.iconst 0, 1) := by decide +kernel
theorem dX11_isTerm_47 : decode cX11_isTerm 47 = .ok (.bipush 9, 2) := by decide +kernel
theorem dX11_isTerm_49 : decode cX11_isTerm 49 = .ok (.invokestatic 18, 3) := by decide +kernel
theorem dX11_isTerm_52 : decode cX11_isTerm 52 = .ok (.ireturn, 1) := by decide +kernel
theorem dX11_isTerm_53 : decode cX11_isTerm 53 = .ok (.iconst 0, 1) := by decide +kernel
theorem dX11_isTerm_54 : decode cX11_isTerm 54 = .ok (.ireturn, 1) := by decide +kernel
theorem dX11_termAt_0 : decode cX11_termAt 0 = .ok (.iload_n 0, 1) := by decide +kernel
theorem dX11_termAt_1 : decode cX11_termAt 1 = .ok (.ifCond .ne 8, 3) := by decide +kernel
theorem dX11_termAt_4 : decode cX11_termAt 4 = .ok (.bipush 18, 2) := by decide +kernel
theorem dX11_termAt_6 : decode cX11_termAt 6 = .ok (.goto 15, 3) := by decide +kernel
theorem dX11_termAt_9 : decode cX11_termAt 9 = .ok (.iload_n 0, 1) := by decide +kernel
theorem dX11_termAt_10 : decode cX11_termAt 10 = .ok (.iconst 1, 1) := by decide +kernel
theorem dX11_termAt_11 : decode cX11_termAt 11 = .ok (.if_icmp .ne 8, 3) := by decide +kernel
theorem dX11_termAt_14 : decode cX11_termAt 14 = .ok (.bipush 43, 2) := by decide +kernel
theorem dX11_termAt_16 : decode cX11_termAt 16 = .ok (.goto 5, 3) := by decide +kernel
theorem dX11_termAt_19 : decode cX11_termAt 19 = .ok (.bipush 44, 2) := by decide +kernel
theorem dX11_termAt_21 : decode cX11_termAt 21 = .ok (.ireturn, 1) := by decide +kernel
theorem dX11_terms_0 : decode cX11_terms 0 = .ok (.iload_n 1, 1) := by decide +kernel
theorem dX11_terms_1 : decode cX11_terms 1 = .ok (.iload_n 2, 1) := by decide +kernel
theorem dX11_terms_2 : decode cX11_terms 2 = .ok (.invokestatic 145, 3) := by decide +kernel
theorem dX11_terms_5 : decode cX11_terms 5 = .ok (.ifCond .ne 9, 3) := by decide +kernel
theorem dX11_terms_8 : decode cX11_terms 8 = .ok (.aload_n 0, 1) := by decide +kernel
theorem dX11_terms_9 : decode cX11_terms 9 = .ok (.iconst (-1), 1) := by decide +kernel
theorem dX11_terms_10 : decode cX11_terms 10 = .ok (.invokevirtual 106, 3) := by decide +kernel
theorem dX11_terms_13 : decode cX11_terms 13 = .ok (.ireturn, 1) := by decide +kernel
theorem dX11_terms_14 : decode cX11_terms 14 = .ok (.aload_n 0, 1) := by decide +kernel
theorem dX11_terms_15 : decode cX11_terms 15 = .ok (.getfield 28, 3) := by decide +kernel
theorem dX11_terms_18 : decode cX11_terms 18 = .ok (.iload_n 1, 1) := by decide +kernel
theorem dX11_terms_19 : decode cX11_terms 19 = .ok (.invokestatic 148, 3) := by decide +kernel
theorem dX11_terms_22 : decode cX11_terms 22 = .ok (.iaload, 1) := by decide +kernel
theorem dX11_terms_23 : decode cX11_terms 23 = .ok (.istore_n 3, 1) := by decide +kernel
theorem dX11_terms_24 : decode cX11_terms 24 = .ok (.aload_n 0, 1) := by decide +kernel
theorem dX11_terms_25 : decode cX11_terms 25 = .ok (.getfield 28, 3) := by decide +kernel
theorem dX11_terms_28 : decode cX11_terms 28 = .ok (.iload_n 1, 1) := by decide +kernel
theorem dX11_terms_29 : decode cX11_terms 29 = .ok (.invokestatic 148, 3) := by decide +kernel
theorem dX11_terms_32 : decode cX11_terms 32 = .ok (.iload_n 2, 1) := by decide +kernel
theorem dX11_terms_33 : decode cX11_terms 33 = .ok (.iastore, 1) := by decide +kernel
theorem dX11_terms_34 : decode cX11_terms 34 = .ok (.aload_n 0, 1) := by decide +kernel
theorem dX11_terms_35 : decode cX11_terms 35 = .ok (.iload_n 3, 1) := by decide +kernel
theorem dX11_terms_36 : decode cX11_terms 36 = .ok (.invokevirtual 109, 3) := by decide +kernel
theorem dX11_terms_39 : decode cX11_terms 39 = .ok (.ireturn, 1) := by decide +kernel
theorem dX11_row_0 : decode cX11_row 0 = .ok (.aload_n 0, 1) := by decide +kernel
theorem dX11_row_1 : decode cX11_row 1 = .ok (.getfield 151, 3) := by decide +kernel
theorem dX11_row_4 : decode cX11_row 4 = .ok (.istore_n 1, 1) := by decide +kernel
theorem dX11_row_5 : decode cX11_row 5 = .ok (.aload_n 0, 1) := by decide +kernel
theorem dX11_row_6 : decode cX11_row 6 = .ok (.iconst 0, 1) := by decide +kernel
theorem dX11_row_7 : decode cX11_row 7 = .ok (.putfield 151, 3) := by decide +kernel
theorem dX11_row_10 : decode cX11_row 10 = .ok (.iload_n 1, 1) := by decide +kernel
theorem dX11_row_11 : decode cX11_row 11 = .ok (.ifCond .ne 10, 3) := by decide +kernel
theorem dX11_row_14 : decode cX11_row 14 = .ok (.aload_n 0, 1) := by decide +kernel
theorem dX11_row_15 : decode cX11_row 15 = .ok (.bipush (-6), 2) := by decide +kernel
theorem dX11_row_17 : decode cX11_row 17 = .ok (.invokevirtual 106, 3) := by decide +kernel
theorem dX11_row_20 : decode cX11_row 20 = .ok (.ireturn, 1) := by decide +kernel
theorem dX11_row_21 : decode cX11_row 21 = .ok (.iconst 0, 1) := by decide +kernel
theorem dX11_row_22 : decode cX11_row 22 = .ok (.istore_n 2, 1) := by decide +kernel
theorem dX11_row_23 : decode cX11_row 23 = .ok (.aload_n 0, 1) := by decide +kernel
theorem dX11_row_24 : decode cX11_row 24 = .ok (.iload_n 1, 1) := by decide +kernel
theorem dX11_row_25 : decode cX11_row 25 = .ok (.iconst 4, 1) := by decide +kernel
theorem dX11_row_26 : decode cX11_row 26 = .ok (.irem, 1) := by decide +kernel
theorem dX11_row_27 : decode cX11_row 27 = .ok (.ifCond .ne 7, 3) := by decide +kernel
theorem dX11_row_30 : decode cX11_row 30 = .ok (.iconst 0, 1) := by decide +kernel
theorem dX11_row_31 : decode cX11_row 31 = .ok (.goto 4, 3) := by decide +kernel
theorem dX11_row_34 : decode cX11_row 34 = .ok (.iconst 1, 1) := by decide +kernel
theorem dX11_row_35 : decode cX11_row 35 = .ok (.putfield 154, 3) := by decide +kernel
theorem dX11_row_38 : decode cX11_row 38 = .ok (.iconst 0, 1) := by decide +kernel
theorem dX11_row_39 : decode cX11_row 39 = .ok (.istore_n 3, 1) := by decide +kernel
theorem dX11_row_40 : decode cX11_row 40 = .ok (.iload_n 3, 1) := by decide +kernel
theorem dX11_row_41 : decode cX11_row 41 = .ok (.iconst 4, 1) := by decide +kernel
theorem dX11_row_42 : decode cX11_row 42 = .ok (.iadd, 1) := by decide +kernel
theorem dX11_row_43 : decode cX11_row 43 = .ok (.iload_n 1, 1) := by decide +kernel
theorem dX11_row_44 : decode cX11_row 44 = .ok (.if_icmp .gt 134, 3) := by decide +kernel
theorem dX11_row_47 : decode cX11_row 47 = .ok (.aload_n 0, 1) := by decide +kernel
theorem dX11_row_48 : decode cX11_row 48 = .ok (.getfield 45, 3) := by decide +kernel
theorem dX11_row_51 : decode cX11_row 51 = .ok (.iload_n 3, 1) := by decide +kernel
theorem dX11_row_52 : decode cX11_row 52 = .ok (.iconst 3, 1) := by decide +kernel
theorem dX11_row_53 : decode cX11_row 53 = .ok (.iadd, 1) := by decide +kernel
theorem dX11_row_54 : decode cX11_row 54 = .ok (.baload, 1) := by decide +kernel
theorem dX11_row_55 : decode cX11_row 55 = .ok (.sipush 255, 3) := by decide +kernel
theorem dX11_row_58 : decode cX11_row 58 = .ok (.iand, 1) := by decide +kernel
theorem dX11_row_59 : decode cX11_row 59 = .ok (.istore 4, 2) := by decide +kernel
theorem dX11_row_61 : decode cX11_row 61 = .ok (.aload_n 0, 1) := by decide +kernel
theorem dX11_row_62 : decode cX11_row 62 = .ok (.invokevirtual 112, 3) := by decide +kernel
theorem dX11_row_65 : decode cX11_row 65 = .ok (.bipush 6, 2) := by decide +kernel
theorem dX11_row_67 : decode cX11_row 67 = .ok (.if_icmp .ge 37, 3) := by decide +kernel
theorem dX11_row_70 : decode cX11_row 70 = .ok (.aload_n 0, 1) := by decide +kernel
theorem dX11_row_71 : decode cX11_row 71 = .ok (.getfield 45, 3) := by decide +kernel
theorem dX11_row_74 : decode cX11_row 74 = .ok (.iload_n 3, 1) := by decide +kernel
theorem dX11_row_75 : decode cX11_row 75 = .ok (.baload, 1) := by decide +kernel
theorem dX11_row_76 : decode cX11_row 76 = .ok (.aload_n 0, 1) := by decide +kernel
theorem dX11_row_77 : decode cX11_row 77 = .ok (.getfield 45, 3) := by decide +kernel
theorem dX11_row_80 : decode cX11_row 80 = .ok (.iload_n 3, 1) := by decide +kernel
theorem dX11_row_81 : decode cX11_row 81 = .ok (.iconst 1, 1) := by decide +kernel
theorem dX11_row_82 : decode cX11_row 82 = .ok (.iadd, 1) := by decide +kernel
theorem dX11_row_83 : decode cX11_row 83 = .ok (.baload, 1) := by decide +kernel
theorem dX11_row_84 : decode cX11_row 84 = .ok (.aload_n 0, 1) := by decide +kernel
theorem dX11_row_85 : decode cX11_row 85 = .ok (.getfield 45, 3) := by decide +kernel
theorem dX11_row_88 : decode cX11_row 88 = .ok (.iload_n 3, 1) := by decide +kernel
theorem dX11_row_89 : decode cX11_row 89 = .ok (.iconst 2, 1) := by decide +kernel
theorem dX11_row_90 : decode cX11_row 90 = .ok (.iadd, 1) := by decide +kernel
theorem dX11_row_91 : decode cX11_row 91 = .ok (.baload, 1) := by decide +kernel
theorem dX11_row_92 : decode cX11_row 92 = .ok (.iload 4, 2) := by decide +kernel
theorem dX11_row_94 : decode cX11_row 94 = .ok (.invokestatic 120, 3) := by decide +kernel
theorem dX11_row_97 : decode cX11_row 97 = .ok (.ifCond .eq 7, 3) := by decide +kernel
theorem dX11_row_100 : decode cX11_row 100 = .ok (.iconst 1, 1) := by decide +kernel
theorem dX11_row_101 : decode cX11_row 101 = .ok (.goto 4, 3) := by decide +kernel
theorem dX11_row_104 : decode cX11_row 104 = .ok (.iconst 0, 1) := by decide +kernel
theorem dX11_row_105 : decode cX11_row 105 = .ok (.istore 5, 2) := by decide +kernel
theorem dX11_row_107 : decode cX11_row 107 = .ok (.iload 5, 2) := by decide +kernel
theorem dX11_row_109 : decode cX11_row 109 = .ok (.ifCond .eq 31, 3) := by decide +kernel
theorem dX11_row_112 : decode cX11_row 112 = .ok (.aload_n 0, 1) := by decide +kernel
theorem dX11_row_113 : decode cX11_row 113 = .ok (.aload_n 0, 1) := by decide +kernel
theorem dX11_row_114 : decode cX11_row 114 = .ok (.getfield 45, 3) := by decide +kernel
theorem dX11_row_117 : decode cX11_row 117 = .ok (.iload_n 3, 1) := by decide +kernel
theorem dX11_row_118 : decode cX11_row 118 = .ok (.baload, 1) := by decide +kernel
theorem dX11_row_119 : decode cX11_row 119 = .ok (.aload_n 0, 1) := by decide +kernel
theorem dX11_row_120 : decode cX11_row 120 = .ok (.getfield 45, 3) := by decide +kernel
theorem dX11_row_123 : decode cX11_row 123 = .ok (.iload_n 3, 1) := by decide +kernel
theorem dX11_row_124 : decode cX11_row 124 = .ok (.iconst 1, 1) := by decide +kernel
theorem dX11_row_125 : decode cX11_row 125 = .ok (.iadd, 1) := by decide +kernel
theorem dX11_row_126 : decode cX11_row 126 = .ok (.baload, 1) := by decide +kernel
theorem dX11_row_127 : decode cX11_row 127 = .ok (.aload_n 0, 1) := by decide +kernel
theorem dX11_row_128 : decode cX11_row 128 = .ok (.getfield 45, 3) := by decide +kernel
theorem dX11_row_131 : decode cX11_row 131 = .ok (.iload_n 3, 1) := by decide +kernel
theorem dX11_row_132 : decode cX11_row 132 = .ok (.iconst 2, 1) := by decide +kernel
theorem dX11_row_133 : decode cX11_row 133 = .ok (.iadd, 1) := by decide +kernel
theorem dX11_row_134 : decode cX11_row 134 = .ok (.baload, 1) := by decide +kernel
theorem dX11_row_135 : decode cX11_row 135 = .ok (.iload 4, 2) := by decide +kernel
theorem dX11_row_137 : decode cX11_row 137 = .ok (.invokevirtual 124, 3) := by decide +kernel
theorem dX11_row_140 : decode cX11_row 140 = .ok (.iload_n 2, 1) := by decide +kernel
theorem dX11_row_141 : decode cX11_row 141 = .ok (.iload 5, 2) := by decide +kernel
theorem dX11_row_143 : decode cX11_row 143 = .ok (.ifCond .eq 7, 3) := by decide +kernel
theorem dX11_row_146 : decode cX11_row 146 = .ok (.iconst 1, 1) := by decide +kernel
theorem dX11_row_147 : decode cX11_row 147 = .ok (.goto 4, 3) := by decide +kernel
theorem dX11_row_150 : decode cX11_row 150 = .ok (.iconst 0, 1) := by decide +kernel
theorem dX11_row_151 : decode cX11_row 151 = .ok (.iadd, 1) := by decide +kernel
theorem dX11_row_152 : decode cX11_row 152 = .ok (.istore_n 2, 1) := by decide +kernel
theorem dX11_row_153 : decode cX11_row 153 = .ok (.aload_n 0, 1) := by decide +kernel
theorem dX11_row_154 : decode cX11_row 154 = .ok (.dup, 1) := by decide +kernel
theorem dX11_row_155 : decode cX11_row 155 = .ok (.getfield 154, 3) := by decide +kernel
theorem dX11_row_158 : decode cX11_row 158 = .ok (.iload 5, 2) := by decide +kernel
theorem dX11_row_160 : decode cX11_row 160 = .ok (.ifCond .eq 7, 3) := by decide +kernel
theorem dX11_row_163 : decode cX11_row 163 = .ok (.iconst 0, 1) := by decide +kernel
theorem dX11_row_164 : decode cX11_row 164 = .ok (.goto 4, 3) := by decide +kernel
theorem dX11_row_167 : decode cX11_row 167 = .ok (.iconst 1, 1) := by decide +kernel
theorem dX11_row_168 : decode cX11_row 168 = .ok (.iadd, 1) := by decide +kernel
theorem dX11_row_169 : decode cX11_row 169 = .ok (.putfield 154, 3) := by decide +kernel
theorem dX11_row_172 : decode cX11_row 172 = .ok (.iinc 3 4, 3) := by decide +kernel
theorem dX11_row_175 : decode cX11_row 175 = .ok (.goto (-135), 3) := by decide +kernel
theorem dX11_row_178 : decode cX11_row 178 = .ok (.aload_n 0, 1) := by decide +kernel
theorem dX11_row_179 : decode cX11_row 179 = .ok (.iload_n 2, 1) := by decide +kernel
theorem dX11_row_180 : decode cX11_row 180 = .ok (.invokevirtual 109, 3) := by decide +kernel
theorem dX11_row_183 : decode cX11_row 183 = .ok (.ireturn, 1) := by decide +kernel
theorem dX11_sleeves_0 : decode cX11_sleeves 0 = .ok (.aload_n 0, 1) := by decide +kernel
theorem dX11_sleeves_1 : decode cX11_sleeves 1 = .ok (.getfield 154, 3) := by decide +kernel
theorem dX11_sleeves_4 : decode cX11_sleeves 4 = .ok (.ireturn, 1) := by decide +kernel
theorem dX11_feed_0 : decode cX11_feed 0 = .ok (.aload_n 0, 1) := by decide +kernel
theorem dX11_feed_1 : decode cX11_feed 1 = .ok (.getfield 151, 3) := by decide +kernel
theorem dX11_feed_4 : decode cX11_feed 4 = .ok (.bipush 20, 2) := by decide +kernel
theorem dX11_feed_6 : decode cX11_feed 6 = .ok (.iadd, 1) := by decide +kernel
theorem dX11_feed_7 : decode cX11_feed 7 = .ok (.sipush 400, 3) := by decide +kernel
theorem dX11_feed_10 : decode cX11_feed 10 = .ok (.if_icmp .le 5, 3) := by decide +kernel
theorem dX11_feed_13 : decode cX11_feed 13 = .ok (.iconst (-1), 1) := by decide +kernel
theorem dX11_feed_14 : decode cX11_feed 14 = .ok (.ireturn, 1) := by decide +kernel
theorem dX11_feed_15 : decode cX11_feed 15 = .ok (.aload_n 0, 1) := by decide +kernel
theorem dX11_feed_16 : decode cX11_feed 16 = .ok (.getfield 48, 3) := by decide +kernel
theorem dX11_feed_19 : decode cX11_feed 19 = .ok (.iconst 0, 1) := by decide +kernel
theorem dX11_feed_20 : decode cX11_feed 20 = .ok (.iload_n 1, 1) := by decide +kernel
theorem dX11_feed_21 : decode cX11_feed 21 = .ok (.iastore, 1) := by decide +kernel
theorem dX11_feed_22 : decode cX11_feed 22 = .ok (.aload_n 0, 1) := by decide +kernel
theorem dX11_feed_23 : decode cX11_feed 23 = .ok (.getfield 48, 3) := by decide +kernel
theorem dX11_feed_26 : decode cX11_feed 26 = .ok (.iconst 1, 1) := by decide +kernel
theorem dX11_feed_27 : decode cX11_feed 27 = .ok (.iload_n 2, 1) := by decide +kernel
theorem dX11_feed_28 : decode cX11_feed 28 = .ok (.iastore, 1) := by decide +kernel
theorem dX11_feed_29 : decode cX11_feed 29 = .ok (.aload_n 0, 1) := by decide +kernel
theorem dX11_feed_30 : decode cX11_feed 30 = .ok (.getfield 48, 3) := by decide +kernel
theorem dX11_feed_33 : decode cX11_feed 33 = .ok (.iconst 2, 1) := by decide +kernel
theorem dX11_feed_34 : decode cX11_feed 34 = .ok (.iload_n 3, 1) := by decide +kernel
theorem dX11_feed_35 : decode cX11_feed 35 = .ok (.iastore, 1) := by decide +kernel
theorem dX11_feed_36 : decode cX11_feed 36 = .ok (.aload_n 0, 1) := by decide +kernel
theorem dX11_feed_37 : decode cX11_feed 37 = .ok (.getfield 48, 3) := by decide +kernel
theorem dX11_feed_40 : decode cX11_feed 40 = .ok (.iconst 3, 1) := by decide +kernel
theorem dX11_feed_41 : decode cX11_feed 41 = .ok (.iload 4, 2) := by decide +kernel
theorem dX11_feed_43 : decode cX11_feed 43 = .ok (.iastore, 1) := by decide +kernel
theorem dX11_feed_44 : decode cX11_feed 44 = .ok (.aload_n 0, 1) := by decide +kernel
theorem dX11_feed_45 : decode cX11_feed 45 = .ok (.getfield 48, 3) := by decide +kernel
theorem dX11_feed_48 : decode cX11_feed 48 = .ok (.iconst 4, 1) := by decide +kernel
theorem dX11_feed_49 : decode cX11_feed 49 = .ok (.iload 5, 2) := by decide +kernel
theorem dX11_feed_51 : decode cX11_feed 51 = .ok (.iastore, 1) := by decide +kernel
theorem dX11_feed_52 : decode cX11_feed 52 = .ok (.iconst 0, 1) := by decide +kernel
theorem dX11_feed_53 : decode cX11_feed 53 = .ok (.istore 6, 2) := by decide +kernel
theorem dX11_feed_55 : decode cX11_feed 55 = .ok (.iload 6, 2) := by decide +kernel
theorem dX11_feed_57 : decode cX11_feed 57 = .ok (.bipush 20, 2) := by decide +kernel
theorem dX11_feed_59 : decode cX11_feed 59 = .ok (.if_icmp .ge 42, 3) := by decide +kernel
theorem dX11_feed_62 : decode cX11_feed 62 = .ok (.aload_n 0, 1) := by decide +kernel
theorem dX11_feed_63 : decode cX11_feed 63 = .ok (.getfield 45, 3) := by decide +kernel
theorem dX11_feed_66 : decode cX11_feed 66 = .ok (.aload_n 0, 1) := by decide +kernel
theorem dX11_feed_67 : decode cX11_feed 67 = .ok (.getfield 151, 3) := by decide +kernel
theorem dX11_feed_70 : decode cX11_feed 70 = .ok (.iload 6, 2) := by decide +kernel
theorem dX11_feed_72 : decode cX11_feed 72 = .ok (.iadd, 1) := by decide +kernel
theorem dX11_feed_73 : decode cX11_feed 73 = .ok (.aload_n 0, 1) := by decide +kernel
theorem dX11_feed_74 : decode cX11_feed 74 = .ok (.getfield 48, 3) := by decide +kernel
theorem dX11_feed_77 : decode cX11_feed 77 = .ok (.iload 6, 2) := by decide +kernel
theorem dX11_feed_79 : decode cX11_feed 79 = .ok (.iconst 4, 1) := by decide +kernel
theorem dX11_feed_80 : decode cX11_feed 80 = .ok (.idiv, 1) := by decide +kernel
theorem dX11_feed_81 : decode cX11_feed 81 = .ok (.iaload, 1) := by decide +kernel
theorem dX11_feed_82 : decode cX11_feed 82 = .ok (.bipush 24, 2) := by decide +kernel
theorem dX11_feed_84 : decode cX11_feed 84 = .ok (.bipush 8, 2) := by decide +kernel
theorem dX11_feed_86 : decode cX11_feed 86 = .ok (.iload 6, 2) := by decide +kernel
theorem dX11_feed_88 : decode cX11_feed 88 = .ok (.iconst 4, 1) := by decide +kernel
theorem dX11_feed_89 : decode cX11_feed 89 = .ok (.irem, 1) := by decide +kernel
theorem dX11_feed_90 : decode cX11_feed 90 = .ok (.imul, 1) := by decide +kernel
theorem dX11_feed_91 : decode cX11_feed 91 = .ok (.isub, 1) := by decide +kernel
theorem dX11_feed_92 : decode cX11_feed 92 = .ok (.ishr, 1) := by decide +kernel
theorem dX11_feed_93 : decode cX11_feed 93 = .ok (.i2b, 1) := by decide +kernel
theorem dX11_feed_94 : decode cX11_feed 94 = .ok (.bastore, 1) := by decide +kernel
theorem dX11_feed_95 : decode cX11_feed 95 = .ok (.iinc 6 1, 3) := by decide +kernel
theorem dX11_feed_98 : decode cX11_feed 98 = .ok (.goto (-43), 3) := by decide +kernel
theorem dX11_feed_101 : decode cX11_feed 101 = .ok (.aload_n 0, 1) := by decide +kernel
theorem dX11_feed_102 : decode cX11_feed 102 = .ok (.dup, 1) := by decide +kernel
theorem dX11_feed_103 : decode cX11_feed 103 = .ok (.getfield 151, 3) := by decide +kernel
theorem dX11_feed_106 : decode cX11_feed 106 = .ok (.bipush 20, 2) := by decide +kernel
theorem dX11_feed_108 : decode cX11_feed 108 = .ok (.iadd, 1) := by decide +kernel
theorem dX11_feed_109 : decode cX11_feed 109 = .ok (.putfield 151, 3) := by decide +kernel
theorem dX11_feed_112 : decode cX11_feed 112 = .ok (.aload_n 0, 1) := by decide +kernel
theorem dX11_feed_113 : decode cX11_feed 113 = .ok (.getfield 151, 3) := by decide +kernel
theorem dX11_feed_116 : decode cX11_feed 116 = .ok (.ireturn, 1) := by decide +kernel
theorem dX11_end_0 : decode cX11_end 0 = .ok (.iload_n 1, 1) := by decide +kernel
theorem dX11_end_1 : decode cX11_end 1 = .ok (.iconst 0, 1) := by decide +kernel
theorem dX11_end_2 : decode cX11_end 2 = .ok (.aload_n 0, 1) := by decide +kernel
theorem dX11_end_3 : decode cX11_end 3 = .ok (.getfield 151, 3) := by decide +kernel
theorem dX11_end_6 : decode cX11_end 6 = .ok (.invokestatic 18, 3) := by decide +kernel
theorem dX11_end_9 : decode cX11_end 9 = .ok (.ifCond .ne 5, 3) := by decide +kernel
theorem dX11_end_12 : decode cX11_end 12 = .ok (.iconst (-1), 1) := by decide +kernel
theorem dX11_end_13 : decode cX11_end 13 = .ok (.ireturn, 1) := by decide +kernel
theorem dX11_end_14 : decode cX11_end 14 = .ok (.aload_n 0, 1) := by decide +kernel
theorem dX11_end_15 : decode cX11_end 15 = .ok (.iload_n 1, 1) := by decide +kernel
theorem dX11_end_16 : decode cX11_end 16 = .ok (.putfield 151, 3) := by decide +kernel
theorem dX11_end_19 : decode cX11_end 19 = .ok (.iload_n 1, 1) := by decide +kernel
theorem dX11_end_20 : decode cX11_end 20 = .ok (.ireturn, 1) := by decide +kernel
theorem dX11_isSmall_0 : decode cX11_isSmall 0 = .ok (.iload_n 0, 1) := by decide +kernel
theorem dX11_isSmall_1 : decode cX11_isSmall 1 = .ok (.bipush 97, 2) := by decide +kernel
theorem dX11_isSmall_3 : decode cX11_isSmall 3 = .ok (.if_icmp .lt 13, 3) := by decide +kernel
theorem dX11_isSmall_6 : decode cX11_isSmall 6 = .ok (.iload_n 0, 1) := by decide +kernel
theorem dX11_isSmall_7 : decode cX11_isSmall 7 = .ok (.bipush 122, 2) := by decide +kernel
theorem dX11_isSmall_9 : decode cX11_isSmall 9 = .ok (.if_icmp .gt 7, 3) := by decide +kernel
theorem dX11_isSmall_12 : decode cX11_isSmall 12 = .ok (.iconst 1, 1) := by decide +kernel
theorem dX11_isSmall_13 : decode cX11_isSmall 13 = .ok (.goto 4, 3) := by decide +kernel
theorem dX11_isSmall_16 : decode cX11_isSmall 16 = .ok (.iconst 0, 1) := by decide +kernel
theorem dX11_isSmall_17 : decode cX11_isSmall 17 = .ok (.ireturn, 1) := by decide +kernel
theorem dX11_isDigit_0 : decode cX11_isDigit 0 = .ok (.iload_n 0, 1) := by decide +kernel
theorem dX11_isDigit_1 : decode cX11_isDigit 1 = .ok (.bipush 48, 2) := by decide +kernel
theorem dX11_isDigit_3 : decode cX11_isDigit 3 = .ok (.if_icmp .lt 13, 3) := by decide +kernel
theorem dX11_isDigit_6 : decode cX11_isDigit 6 = .ok (.iload_n 0, 1) := by decide +kernel
theorem dX11_isDigit_7 : decode cX11_isDigit 7 = .ok (.bipush 57, 2) := by decide +kernel
theorem dX11_isDigit_9 : decode cX11_isDigit 9 = .ok (.if_icmp .gt 7, 3) := by decide +kernel
theorem dX11_isDigit_12 : decode cX11_isDigit 12 = .ok (.iconst 1, 1) := by decide +kernel
theorem dX11_isDigit_13 : decode cX11_isDigit 13 = .ok (.goto 4, 3) := by decide +kernel
theorem dX11_isDigit_16 : decode cX11_isDigit 16 = .ok (.iconst 0, 1) := by decide +kernel
theorem dX11_isDigit_17 : decode cX11_isDigit 17 = .ok (.ireturn, 1) := by decide +kernel
theorem dX11_wordOf_0 : decode cX11_wordOf 0 = .ok (.iconst 1, 1) := by decide +kernel
theorem dX11_wordOf_1 : decode cX11_wordOf 1 = .ok (.istore_n 3, 1) := by decide +kernel
theorem dX11_wordOf_2 : decode cX11_wordOf 2 = .ok (.iconst 0, 1) := by decide +kernel
theorem dX11_wordOf_3 : decode cX11_wordOf 3 = .ok (.istore 4, 2) := by decide +kernel
theorem dX11_wordOf_5 : decode cX11_wordOf 5 = .ok (.iload 4, 2) := by decide +kernel
theorem dX11_wordOf_7 : decode cX11_wordOf 7 = .ok (.aload_n 0, 1) := by decide +kernel
theorem dX11_wordOf_8 : decode cX11_wordOf 8 = .ok (.getfield 41, 3) := by decide +kernel
theorem dX11_wordOf_11 : decode cX11_wordOf 11 = .ok (.arraylength, 1) := by decide +kernel
theorem dX11_wordOf_12 : decode cX11_wordOf 12 = .ok (.if_icmp .ge 114, 3) := by decide +kernel
theorem dX11_wordOf_15 : decode cX11_wordOf 15 = .ok (.iconst 0, 1) := by decide +kernel
theorem dX11_wordOf_16 : decode cX11_wordOf 16 = .ok (.istore 5, 2) := by decide +kernel
theorem dX11_wordOf_18 : decode cX11_wordOf 18 = .ok (.aload_n 0, 1) := by decide +kernel
theorem dX11_wordOf_19 : decode cX11_wordOf 19 = .ok (.getfield 41, 3) := by decide +kernel
theorem dX11_wordOf_22 : decode cX11_wordOf 22 = .ok (.iload 4, 2) := by decide +kernel
theorem dX11_wordOf_24 : decode cX11_wordOf 24 = .ok (.iload 5, 2) := by decide +kernel
theorem dX11_wordOf_26 : decode cX11_wordOf 26 = .ok (.iadd, 1) := by decide +kernel
theorem dX11_wordOf_27 : decode cX11_wordOf 27 = .ok (.baload, 1) := by decide +kernel
theorem dX11_wordOf_28 : decode cX11_wordOf 28 = .ok (.bipush 32, 2) := by decide +kernel
theorem dX11_wordOf_30 : decode cX11_wordOf 30 = .ok (.if_icmp .eq 9, 3) := by decide +kernel
theorem dX11_wordOf_33 : decode cX11_wordOf 33 = .ok (.iinc 5 1, 3) := by decide +kernel
theorem dX11_wordOf_36 : decode cX11_wordOf 36 = .ok (.goto (-18), 3) := by decide +kernel
theorem dX11_wordOf_39 : decode cX11_wordOf 39 = .ok (.iload 5, 2) := by decide +kernel
theorem dX11_wordOf_41 : decode cX11_wordOf 41 = .ok (.iload_n 2, 1) := by decide +kernel
theorem dX11_wordOf_42 : decode cX11_wordOf 42 = .ok (.iload_n 1, 1) := by decide +kernel
theorem dX11_wordOf_43 : decode cX11_wordOf 43 = .ok (.isub, 1) := by decide +kernel
theorem dX11_wordOf_44 : decode cX11_wordOf 44 = .ok (.if_icmp .ne 7, 3) := by decide +kernel
theorem dX11_wordOf_47 : decode cX11_wordOf 47 = .ok (.iconst 1, 1) := by decide +kernel
theorem dX11_wordOf_48 : decode cX11_wordOf 48 = .ok (.goto 4, 3) := by decide +kernel
theorem dX11_wordOf_51 : decode cX11_wordOf 51 = .ok (.iconst 0, 1) := by decide +kernel
theorem dX11_wordOf_52 : decode cX11_wordOf 52 = .ok (.istore 6, 2) := by decide +kernel
theorem dX11_wordOf_54 : decode cX11_wordOf 54 = .ok (.iconst 0, 1) := by decide +kernel
theorem dX11_wordOf_55 : decode cX11_wordOf 55 = .ok (.istore 7, 2) := by decide +kernel
theorem dX11_wordOf_57 : decode cX11_wordOf 57 = .ok (.iload 7, 2) := by decide +kernel
theorem dX11_wordOf_59 : decode cX11_wordOf 59 = .ok (.iload 5, 2) := by decide +kernel
theorem dX11_wordOf_61 : decode cX11_wordOf 61 = .ok (.if_icmp .ge 43, 3) := by decide +kernel
theorem dX11_wordOf_64 : decode cX11_wordOf 64 = .ok (.iload 6, 2) := by decide +kernel
theorem dX11_wordOf_66 : decode cX11_wordOf 66 = .ok (.ifCond .eq 38, 3) := by decide +kernel
theorem dX11_wordOf_69 : decode cX11_wordOf 69 = .ok (.aload_n 0, 1) := by decide +kernel
theorem dX11_wordOf_70 : decode cX11_wordOf 70 = .ok (.getfield 41, 3) := by decide +kernel
theorem dX11_wordOf_73 : decode cX11_wordOf 73 = .ok (.iload 4, 2) := by decide +kernel
theorem dX11_wordOf_75 : decode cX11_wordOf 75 = .ok (.iload 7, 2) := by decide +kernel
theorem dX11_wordOf_77 : decode cX11_wordOf 77 = .ok (.iadd, 1) := by decide +kernel
theorem dX11_wordOf_78 : decode cX11_wordOf 78 = .ok (.baload, 1) := by decide +kernel
theorem dX11_wordOf_79 : decode cX11_wordOf 79 = .ok (.aload_n 0, 1) := by decide +kernel
theorem dX11_wordOf_80 : decode cX11_wordOf 80 = .ok (.getfield 45, 3) := by decide +kernel
theorem dX11_wordOf_83 : decode cX11_wordOf 83 = .ok (.iload_n 1, 1) := by decide +kernel
theorem dX11_wordOf_84 : decode cX11_wordOf 84 = .ok (.iload 7, 2) := by decide +kernel
theorem dX11_wordOf_86 : decode cX11_wordOf 86 = .ok (.iadd, 1) := by decide +kernel
theorem dX11_wordOf_87 : decode cX11_wordOf 87 = .ok (.baload, 1) := by decide +kernel
theorem dX11_wordOf_88 : decode cX11_wordOf 88 = .ok (.if_icmp .ne 7, 3) := by decide +kernel
theorem dX11_wordOf_91 : decode cX11_wordOf 91 = .ok (.iconst 1, 1) := by decide +kernel
theorem dX11_wordOf_92 : decode cX11_wordOf 92 = .ok (.goto 4, 3) := by decide +kernel
theorem dX11_wordOf_95 : decode cX11_wordOf 95 = .ok (.iconst 0, 1) := by decide +kernel
theorem dX11_wordOf_96 : decode cX11_wordOf 96 = .ok (.istore 6, 2) := by decide +kernel
theorem dX11_wordOf_98 : decode cX11_wordOf 98 = .ok (.iinc 7 1, 3) := by decide +kernel
theorem dX11_wordOf_101 : decode cX11_wordOf 101 = .ok (.goto (-44), 3) := by decide +kernel
theorem dX11_wordOf_104 : decode cX11_wordOf 104 = .ok (.iload 6, 2) := by decide +kernel
theorem dX11_wordOf_106 : decode cX11_wordOf 106 = .ok (.ifCond .eq 5, 3) := by decide +kernel
theorem dX11_wordOf_109 : decode cX11_wordOf 109 = .ok (.iload_n 3, 1) := by decide +kernel
theorem dX11_wordOf_110 : decode cX11_wordOf 110 = .ok (.ireturn, 1) := by decide +kernel
theorem dX11_wordOf_111 : decode cX11_wordOf 111 = .ok (.iload 4, 2) := by decide +kernel
theorem dX11_wordOf_113 : decode cX11_wordOf 113 = .ok (.iload 5, 2) := by decide +kernel
theorem dX11_wordOf_115 : decode cX11_wordOf 115 = .ok (.iconst 1, 1) := by decide +kernel
theorem dX11_wordOf_116 : decode cX11_wordOf 116 = .ok (.iadd, 1) := by decide +kernel
theorem dX11_wordOf_117 : decode cX11_wordOf 117 = .ok (.iadd, 1) := by decide +kernel
theorem dX11_wordOf_118 : decode cX11_wordOf 118 = .ok (.istore 4, 2) := by decide +kernel
theorem dX11_wordOf_120 : decode cX11_wordOf 120 = .ok (.iinc 3 1, 3) := by decide +kernel
theorem dX11_wordOf_123 : decode cX11_wordOf 123 = .ok (.goto (-118), 3) := by decide +kernel
theorem dX11_wordOf_126 : decode cX11_wordOf 126 = .ok (.iconst 0, 1) := by decide +kernel
theorem dX11_wordOf_127 : decode cX11_wordOf 127 = .ok (.ireturn, 1) := by decide +kernel
theorem dX11_splits_0 : decode cX11_splits 0 = .ok (.aload_n 0, 1) := by decide +kernel
theorem dX11_splits_1 : decode cX11_splits 1 = .ok (.iconst 0, 1) := by decide +kernel
theorem dX11_splits_2 : decode cX11_splits 2 = .ok (.putfield 157, 3) := by decide +kernel
theorem dX11_splits_5 : decode cX11_splits 5 = .ok (.iconst 0, 1) := by decide +kernel
theorem dX11_splits_6 : decode cX11_splits 6 = .ok (.istore_n 2, 1) := by decide +kernel
theorem dX11_splits_7 : decode cX11_splits 7 = .ok (.iload_n 2, 1) := by decide +kernel
theorem dX11_splits_8 : decode cX11_splits 8 = .ok (.iload_n 1, 1) := by decide +kernel
theorem dX11_splits_9 : decode cX11_splits 9 = .ok (.if_icmp .ge 254, 3) := by decide +kernel
theorem dX11_splits_12 : decode cX11_splits 12 = .ok (.aload_n 0, 1) := by decide +kernel
theorem dX11_splits_13 : decode cX11_splits 13 = .ok (.getfield 45, 3) := by decide +kernel
theorem dX11_splits_16 : decode cX11_splits 16 = .ok (.iload_n 2, 1) := by decide +kernel
theorem dX11_splits_17 : decode cX11_splits 17 = .ok (.baload, 1) := by decide +kernel
theorem dX11_splits_18 : decode cX11_splits 18 = .ok (.istore_n 3, 1) := by decide +kernel
theorem dX11_splits_19 : decode cX11_splits 19 = .ok (.iload_n 3, 1) := by decide +kernel
theorem dX11_splits_20 : decode cX11_splits 20 = .ok (.bipush 32, 2) := by decide +kernel
theorem dX11_splits_22 : decode cX11_splits 22 = .ok (.if_icmp .ne 9, 3) := by decide +kernel
theorem dX11_splits_25 : decode cX11_splits 25 = .ok (.iinc 2 1, 3) := by decide +kernel
theorem dX11_splits_28 : decode cX11_splits 28 = .ok (.goto (-21), 3) := by decide +kernel
theorem dX11_splits_31 : decode cX11_splits 31 = .ok (.iload_n 2, 1) := by decide +kernel
theorem dX11_splits_32 : decode cX11_splits 32 = .ok (.iconst 1, 1) := by decide +kernel
theorem dX11_splits_33 : decode cX11_splits 33 = .ok (.iadd, 1) := by decide +kernel
theorem dX11_splits_34 : decode cX11_splits 34 = .ok (.istore 4, 2) := by decide +kernel
theorem dX11_splits_36 : decode cX11_splits 36 = .ok (.iload_n 3, 1) := by decide +kernel
theorem dX11_splits_37 : decode cX11_splits 37 = .ok (.invokestatic 160, 3) := by decide +kernel
theorem dX11_splits_40 : decode cX11_splits 40 = .ok (.ifCond .eq 28, 3) := by decide +kernel
theorem dX11_splits_43 : decode cX11_splits 43 = .ok (.iload 4, 2) := by decide +kernel
theorem dX11_splits_45 : decode cX11_splits 45 = .ok (.iload_n 1, 1) := by decide +kernel
theorem dX11_splits_46 : decode cX11_splits 46 = .ok (.if_icmp .ge 22, 3) := by decide +kernel
theorem dX11_splits_49 : decode cX11_splits 49 = .ok (.aload_n 0, 1) := by decide +kernel
theorem dX11_splits_50 : decode cX11_splits 50 = .ok (.getfield 45, 3) := by decide +kernel
theorem dX11_splits_53 : decode cX11_splits 53 = .ok (.iload 4, 2) := by decide +kernel
theorem dX11_splits_55 : decode cX11_splits 55 = .ok (.baload, 1) := by decide +kernel
theorem dX11_splits_56 : decode cX11_splits 56 = .ok (.invokestatic 160, 3) := by decide +kernel
theorem dX11_splits_59 : decode cX11_splits 59 = .ok (.ifCond .eq 9, 3) := by decide +kernel
theorem dX11_splits_62 : decode cX11_splits 62 = .ok (.iinc 4 1, 3) := by decide +kernel
theorem dX11_splits_65 : decode cX11_splits 65 = .ok (.goto (-22), 3) := by decide +kernel
theorem dX11_splits_68 : decode cX11_splits 68 = .ok (.iload_n 3, 1) := by decide +kernel
theorem dX11_splits_69 : decode cX11_splits 69 = .ok (.invokestatic 163, 3) := by decide +kernel
theorem dX11_splits_72 : decode cX11_splits 72 = .ok (.ifCond .eq 28, 3) := by decide +kernel
theorem dX11_splits_75 : decode cX11_splits 75 = .ok (.iload 4, 2) := by decide +kernel
theorem dX11_splits_77 : decode cX11_splits 77 = .ok (.iload_n 1, 1) := by decide +kernel
theorem dX11_splits_78 : decode cX11_splits 78 = .ok (.if_icmp .ge 22, 3) := by decide +kernel
theorem dX11_splits_81 : decode cX11_splits 81 = .ok (.aload_n 0, 1) := by decide +kernel
theorem dX11_splits_82 : decode cX11_splits 82 = .ok (.getfield 45, 3) := by decide +kernel
theorem dX11_splits_85 : decode cX11_splits 85 = .ok (.iload 4, 2) := by decide +kernel
theorem dX11_splits_87 : decode cX11_splits 87 = .ok (.baload, 1) := by decide +kernel
theorem dX11_splits_88 : decode cX11_splits 88 = .ok (.invokestatic 163, 3) := by decide +kernel
theorem dX11_splits_91 : decode cX11_splits 91 = .ok (.ifCond .eq 9, 3) := by decide +kernel
theorem dX11_splits_94 : decode cX11_splits 94 = .ok (.iinc 4 1, 3) := by decide +kernel
theorem dX11_splits_97 : decode cX11_splits 97 = .ok (.goto (-22), 3) := by decide +kernel
theorem dX11_splits_100 : decode cX11_splits 100 = .ok (.aload_n 0, 1) := by decide +kernel
theorem dX11_splits_101 : decode cX11_splits 101 = .ok (.getfield 60, 3) := by decide +kernel
theorem dX11_splits_104 : decode cX11_splits 104 = .ok (.aload_n 0, 1) := by decide +kernel
theorem dX11_splits_105 : decode cX11_splits 105 = .ok (.getfield 157, 3) := by decide +kernel
theorem dX11_splits_108 : decode cX11_splits 108 = .ok (.iload_n 2, 1) := by decide +kernel
theorem dX11_splits_109 : decode cX11_splits 109 = .ok (.iastore, 1) := by decide +kernel
theorem dX11_splits_110 : decode cX11_splits 110 = .ok (.aload_n 0, 1) := by decide +kernel
theorem dX11_splits_111 : decode cX11_splits 111 = .ok (.getfield 57, 3) := by decide +kernel
theorem dX11_splits_114 : decode cX11_splits 114 = .ok (.aload_n 0, 1) := by decide +kernel
theorem dX11_splits_115 : decode cX11_splits 115 = .ok (.getfield 157, 3) := by decide +kernel
theorem dX11_splits_118 : decode cX11_splits 118 = .ok (.iconst 0, 1) := by decide +kernel
theorem dX11_splits_119 : decode cX11_splits 119 = .ok (.iastore, 1) := by decide +kernel
theorem dX11_splits_120 : decode cX11_splits 120 = .ok (.aload_n 0, 1) := by decide +kernel
theorem dX11_splits_121 : decode cX11_splits 121 = .ok (.getfield 54, 3) := by decide +kernel
theorem dX11_splits_124 : decode cX11_splits 124 = .ok (.aload_n 0, 1) := by decide +kernel
theorem dX11_splits_125 : decode cX11_splits 125 = .ok (.getfield 157, 3) := by decide +kernel
theorem dX11_splits_128 : decode cX11_splits 128 = .ok (.iload_n 3, 1) := by decide +kernel
theorem dX11_splits_129 : decode cX11_splits 129 = .ok (.invokestatic 160, 3) := by decide +kernel
theorem dX11_splits_132 : decode cX11_splits 132 = .ok (.ifCond .eq 13, 3) := by decide +kernel
theorem dX11_splits_135 : decode cX11_splits 135 = .ok (.aload_n 0, 1) := by decide +kernel
theorem dX11_splits_136 : decode cX11_splits 136 = .ok (.iload_n 2, 1) := by decide +kernel
theorem dX11_splits_137 : decode cX11_splits 137 = .ok (.iload 4, 2) := by decide +kernel
theorem dX11_splits_139 : decode cX11_splits 139 = .ok (.invokevirtual 166, 3) := by decide +kernel
theorem dX11_splits_142 : decode cX11_splits 142 = .ok (.goto 23, 3) := by decide +kernel
theorem dX11_splits_145 : decode cX11_splits 145 = .ok (.iload_n 3, 1) := by decide +kernel
theorem dX11_splits_146 : decode cX11_splits 146 = .ok (.invokestatic 163, 3) := by decide +kernel
theorem dX11_splits_149 : decode cX11_splits 149 = .ok (.ifCond .eq 8, 3) := by decide +kernel
theorem dX11_splits_152 : decode cX11_splits 152 = .ok (.bipush 50, 2) := by decide +kernel
theorem dX11_splits_154 : decode cX11_splits 154 = .ok (.goto 11, 3) := by decide +kernel
theorem dX11_splits_157 : decode cX11_splits 157 = .ok (.bipush 100, 2) := by decide +kernel
theorem dX11_splits_159 : decode cX11_splits 159 = .ok (.iload_n 3, 1) := by decide +kernel
theorem dX11_splits_160 : decode cX11_splits 160 = .ok (.sipush 255, 3) := by decide +kernel
theorem dX11_splits_163 : decode cX11_splits 163 = .ok (.iand, 1) := by decide +kernel
theorem dX11_splits_164 : decode cX11_splits 164 = .ok (.iadd, 1) := by decide +kernel
theorem dX11_splits_165 : decode cX11_splits 165 = .ok (.iastore, 1) := by decide +kernel
theorem dX11_splits_166 : decode cX11_splits 166 = .ok (.iload_n 2, 1) := by decide +kernel
theorem dX11_splits_167 : decode cX11_splits 167 = .ok (.istore 5, 2) := by decide +kernel
theorem dX11_splits_169 : decode cX11_splits 169 = .ok (.iload 5, 2) := by decide +kernel
theorem dX11_splits_171 : decode cX11_splits 171 = .ok (.iload 4, 2) := by decide +kernel
theorem dX11_splits_173 : decode cX11_splits 173 = .ok (.if_icmp .ge 74, 3) := by decide +kernel
theorem dX11_splits_176 : decode cX11_splits 176 = .ok (.iload_n 3, 1) := by decide +kernel
theorem dX11_splits_177 : decode cX11_splits 177 = .ok (.invokestatic 163, 3) := by decide +kernel
theorem dX11_splits_180 : decode cX11_splits 180 = .ok (.ifCond .eq 67, 3) := by decide +kernel
theorem dX11_splits_183 : decode cX11_splits 183 = .ok (.aload_n 0, 1) := by decide +kernel
theorem dX11_splits_184 : decode cX11_splits 184 = .ok (.getfield 57, 3) := by decide +kernel
theorem dX11_splits_187 : decode cX11_splits 187 = .ok (.aload_n 0, 1) := by decide +kernel
theorem dX11_splits_188 : decode cX11_splits 188 = .ok (.getfield 157, 3) := by decide +kernel
theorem dX11_splits_191 : decode cX11_splits 191 = .ok (.aload_n 0, 1) := by decide +kernel
theorem dX11_splits_192 : decode cX11_splits 192 = .ok (.getfield 57, 3) := by decide +kernel
theorem dX11_splits_195 : decode cX11_splits 195 = .ok (.aload_n 0, 1) := by decide +kernel
theorem dX11_splits_196 : decode cX11_splits 196 = .ok (.getfield 157, 3) := by decide +kernel
theorem dX11_splits_199 : decode cX11_splits 199 = .ok (.iaload, 1) := by decide +kernel
theorem dX11_splits_200 : decode cX11_splits 200 = .ok (.ldc 169, 2) := by decide +kernel
theorem dX11_splits_202 : decode cX11_splits 202 = .ok (.if_icmp .le 15, 3) := by decide +kernel
theorem dX11_splits_205 : decode cX11_splits 205 = .ok (.aload_n 0, 1) := by decide +kernel
theorem dX11_splits_206 : decode cX11_splits 206 = .ok (.getfield 57, 3) := by decide +kernel
theorem dX11_splits_209 : decode cX11_splits 209 = .ok (.aload_n 0, 1) := by decide +kernel
theorem dX11_splits_210 : decode cX11_splits 210 = .ok (.getfield 157, 3) := by decide +kernel
theorem dX11_splits_213 : decode cX11_splits 213 = .ok (.iaload, 1) := by decide +kernel
theorem dX11_splits_214 : decode cX11_splits 214 = .ok (.goto 26, 3) := by decide +kernel
theorem dX11_splits_217 : decode cX11_splits 217 = .ok (.bipush 10, 2) := by decide +kernel
theorem dX11_splits_219 : decode cX11_splits 219 = .ok (.aload_n 0, 1) := by decide +kernel
theorem dX11_splits_220 : decode cX11_splits 220 = .ok (.getfield 57, 3) := by decide +kernel
theorem dX11_splits_223 : decode cX11_splits 223 = .ok (.aload_n 0, 1) := by decide +kernel
theorem dX11_splits_224 : decode cX11_splits 224 = .ok (.getfield 157, 3) := by decide +kernel
theorem dX11_splits_227 : decode cX11_splits 227 = .ok (.iaload, 1) := by decide +kernel
theorem dX11_splits_228 : decode cX11_splits 228 = .ok (.imul, 1) := by decide +kernel
theorem dX11_splits_229 : decode cX11_splits 229 = .ok (.aload_n 0, 1) := by decide +kernel
theorem dX11_splits_230 : decode cX11_splits 230 = .ok (.getfield 45, 3) := by decide +kernel
theorem dX11_splits_233 : decode cX11_splits 233 = .ok (.iload 5, 2) := by decide +kernel
theorem dX11_splits_235 : decode cX11_splits 235 = .ok (.baload, 1) := by decide +kernel
theorem dX11_splits_236 : decode cX11_splits 236 = .ok (.iadd, 1) := by decide +kernel
theorem dX11_splits_237 : decode cX11_splits 237 = .ok (.bipush 48, 2) := by decide +kernel
theorem dX11_splits_239 : decode cX11_splits 239 = .ok (.isub, 1) := by decide +kernel
theorem dX11_splits_240 : decode cX11_splits 240 = .ok (.iastore, 1) := by decide +kernel
theorem dX11_splits_241 : decode cX11_splits 241 = .ok (.iinc 5 1, 3) := by decide +kernel
theorem dX11_splits_244 : decode cX11_splits 244 = .ok (.goto (-75), 3) := by decide +kernel
theorem dX11_splits_247 : decode cX11_splits 247 = .ok (.aload_n 0, 1) := by decide +kernel
theorem dX11_splits_248 : decode cX11_splits 248 = .ok (.dup, 1) := by decide +kernel
theorem dX11_splits_249 : decode cX11_splits 249 = .ok (.getfield 157, 3) := by decide +kernel
theorem dX11_splits_252 : decode cX11_splits 252 = .ok (.iconst 1, 1) := by decide +kernel
theorem dX11_splits_253 : decode cX11_splits 253 = .ok (.iadd, 1) := by decide +kernel
theorem dX11_splits_254 : decode cX11_splits 254 = .ok (.putfield 157, 3) := by decide +kernel
theorem dX11_splits_257 : decode cX11_splits 257 = .ok (.iload 4, 2) := by decide +kernel
theorem dX11_splits_259 : decode cX11_splits 259 = .ok (.istore_n 2, 1) := by decide +kernel
theorem dX11_splits_260 : decode cX11_splits 260 = .ok (.goto (-253), 3) := by decide +kernel
theorem dX11_splits_263 : decode cX11_splits 263 = .ok (.aload_n 0, 1) := by decide +kernel
theorem dX11_splits_264 : decode cX11_splits 264 = .ok (.getfield 60, 3) := by decide +kernel
theorem dX11_splits_267 : decode cX11_splits 267 = .ok (.aload_n 0, 1) := by decide +kernel
theorem dX11_splits_268 : decode cX11_splits 268 = .ok (.getfield 157, 3) := by decide +kernel
theorem dX11_splits_271 : decode cX11_splits 271 = .ok (.iload_n 1, 1) := by decide +kernel
theorem dX11_splits_272 : decode cX11_splits 272 = .ok (.iastore, 1) := by decide +kernel
theorem dX11_splits_273 : decode cX11_splits 273 = .ok (.aload_n 0, 1) := by decide +kernel
theorem dX11_splits_274 : decode cX11_splits 274 = .ok (.getfield 54, 3) := by decide +kernel
theorem dX11_splits_277 : decode cX11_splits 277 = .ok (.aload_n 0, 1) := by decide +kernel
theorem dX11_splits_278 : decode cX11_splits 278 = .ok (.getfield 157, 3) := by decide +kernel
theorem dX11_splits_281 : decode cX11_splits 281 = .ok (.iconst 0, 1) := by decide +kernel
theorem dX11_splits_282 : decode cX11_splits 282 = .ok (.iastore, 1) := by decide +kernel
theorem dX11_splits_283 : decode cX11_splits 283 = .ok (.aload_n 0, 1) := by decide +kernel
theorem dX11_splits_284 : decode cX11_splits 284 = .ok (.getfield 57, 3) := by decide +kernel
theorem dX11_splits_287 : decode cX11_splits 287 = .ok (.aload_n 0, 1) := by decide +kernel
theorem dX11_splits_288 : decode cX11_splits 288 = .ok (.getfield 157, 3) := by decide +kernel
theorem dX11_splits_291 : decode cX11_splits 291 = .ok (.iconst 0, 1) := by decide +kernel
theorem dX11_splits_292 : decode cX11_splits 292 = .ok (.iastore, 1) := by decide +kernel
theorem dX11_splits_293 : decode cX11_splits 293 = .ok (.return_, 1) := by decide +kernel
theorem dX11_fine_0 : decode cX11_fine 0 = .ok (.aload_n 0, 1) := by decide +kernel
theorem dX11_fine_1 : decode cX11_fine 1 = .ok (.getfield 170, 3) := by decide +kernel
theorem dX11_fine_4 : decode cX11_fine 4 = .ok (.iconst (-1), 1) := by decide +kernel
theorem dX11_fine_5 : decode cX11_fine 5 = .ok (.if_icmp .ne 7, 3) := by decide +kernel
theorem dX11_fine_8 : decode cX11_fine 8 = .ok (.iconst 1, 1) := by decide +kernel
theorem dX11_fine_9 : decode cX11_fine 9 = .ok (.goto 4, 3) := by decide +kernel
theorem dX11_fine_12 : decode cX11_fine 12 = .ok (.iconst 0, 1) := by decide +kernel
theorem dX11_fine_13 : decode cX11_fine 13 = .ok (.ireturn, 1) := by decide +kernel
theorem dX11_faults_0 : decode cX11_faults 0 = .ok (.aload_n 0, 1) := by decide +kernel
theorem dX11_faults_1 : decode cX11_faults 1 = .ok (.invokevirtual 173, 3) := by decide +kernel
theorem dX11_faults_4 : decode cX11_faults 4 = .ok (.ifCond .eq 16, 3) := by decide +kernel
theorem dX11_faults_7 : decode cX11_faults 7 = .ok (.aload_n 0, 1) := by decide +kernel
theorem dX11_faults_8 : decode cX11_faults 8 = .ok (.aload_n 0, 1) := by decide +kernel
theorem dX11_faults_9 : decode cX11_faults 9 = .ok (.getfield 60, 3) := by decide +kernel
theorem dX11_faults_12 : decode cX11_faults 12 = .ok (.aload_n 0, 1) := by decide +kernel
theorem dX11_faults_13 : decode cX11_faults 13 = .ok (.getfield 177, 3) := by decide +kernel
theorem dX11_faults_16 : decode cX11_faults 16 = .ok (.iaload, 1) := by decide +kernel
theorem dX11_faults_17 : decode cX11_faults 17 = .ok (.putfield 170, 3) := by decide +kernel
theorem dX11_faults_20 : decode cX11_faults 20 = .ok (.return_, 1) := by decide +kernel
theorem dX11_takes0_0 : decode cX11_takes0 0 = .ok (.aload_n 0, 1) := by decide +kernel
theorem dX11_takes0_1 : decode cX11_takes0 1 = .ok (.invokevirtual 173, 3) := by decide +kernel
theorem dX11_takes0_4 : decode cX11_takes0 4 = .ok (.ifCond .eq 20, 3) := by decide +kernel
theorem dX11_takes0_7 : decode cX11_takes0 7 = .ok (.aload_n 0, 1) := by decide +kernel
theorem dX11_takes0_8 : decode cX11_takes0 8 = .ok (.getfield 54, 3) := by decide +kernel
theorem dX11_takes0_11 : decode cX11_takes0 11 = .ok (.aload_n 0, 1) := by decide +kernel
theorem dX11_takes0_12 : decode cX11_takes0 12 = .ok (.getfield 177, 3) := by decide +kernel
theorem dX11_takes0_15 : decode cX11_takes0 15 = .ok (.iaload, 1) := by decide +kernel
theorem dX11_takes0_16 : decode cX11_takes0 16 = .ok (.iload_n 1, 1) := by decide +kernel
theorem dX11_takes0_17 : decode cX11_takes0 17 = .ok (.if_icmp .ne 7, 3) := by decide +kernel
theorem dX11_takes0_20 : decode cX11_takes0 20 = .ok (.iconst 1, 1) := by decide +kernel
theorem dX11_takes0_21 : decode cX11_takes0 21 = .ok (.goto 4, 3) := by decide +kernel
theorem dX11_takes0_24 : decode cX11_takes0 24 = .ok (.iconst 0, 1) := by decide +kernel
theorem dX11_takes0_25 : decode cX11_takes0 25 = .ok (.istore_n 2, 1) := by decide +kernel
theorem dX11_takes0_26 : decode cX11_takes0 26 = .ok (.iload_n 2, 1) := by decide +kernel
theorem dX11_takes0_27 : decode cX11_takes0 27 = .ok (.ifCond .eq 13, 3) := by decide +kernel
theorem dX11_takes0_30 : decode cX11_takes0 30 = .ok (.aload_n 0, 1) := by decide +kernel
theorem dX11_takes0_31 : decode cX11_takes0 31 = .ok (.dup, 1) := by decide +kernel
theorem dX11_takes0_32 : decode cX11_takes0 32 = .ok (.getfield 177, 3) := by decide +kernel
theorem dX11_takes0_35 : decode cX11_takes0 35 = .ok (.iconst 1, 1) := by decide +kernel
theorem dX11_takes0_36 : decode cX11_takes0 36 = .ok (.iadd, 1) := by decide +kernel
theorem dX11_takes0_37 : decode cX11_takes0 37 = .ok (.putfield 177, 3) := by decide +kernel
theorem dX11_takes0_40 : decode cX11_takes0 40 = .ok (.iload_n 2, 1) := by decide +kernel
theorem dX11_takes0_41 : decode cX11_takes0 41 = .ok (.ireturn, 1) := by decide +kernel
theorem dX11_must_0 : decode cX11_must 0 = .ok (.aload_n 0, 1) := by decide +kernel
theorem dX11_must_1 : decode cX11_must 1 = .ok (.iload_n 1, 1) := by decide +kernel
theorem dX11_must_2 : decode cX11_must 2 = .ok (.invokevirtual 180, 3) := by decide +kernel
theorem dX11_must_5 : decode cX11_must 5 = .ok (.ifCond .ne 7, 3) := by decide +kernel
theorem dX11_must_8 : decode cX11_must 8 = .ok (.aload_n 0, 1) := by decide +kernel
theorem dX11_must_9 : decode cX11_must 9 = .ok (.invokevirtual 183, 3) := by decide +kernel
theorem dX11_must_12 : decode cX11_must 12 = .ok (.return_, 1) := by decide +kernel
theorem dX11_leaf_0 : decode cX11_leaf 0 = .ok (.aload_n 0, 1) := by decide +kernel
theorem dX11_leaf_1 : decode cX11_leaf 1 = .ok (.getfield 186, 3) := by decide +kernel
theorem dX11_leaf_4 : decode cX11_leaf 4 = .ok (.bipush 50, 2) := by decide +kernel
theorem dX11_leaf_6 : decode cX11_leaf 6 = .ok (.if_icmp .ne 7, 3) := by decide +kernel
theorem dX11_leaf_9 : decode cX11_leaf 9 = .ok (.aload_n 0, 1) := by decide +kernel
theorem dX11_leaf_10 : decode cX11_leaf 10 = .ok (.invokevirtual 183, 3) := by decide +kernel
theorem dX11_leaf_13 : decode cX11_leaf 13 = .ok (.aload_n 0, 1) := by decide +kernel
theorem dX11_leaf_14 : decode cX11_leaf 14 = .ok (.dup, 1) := by decide +kernel
theorem dX11_leaf_15 : decode cX11_leaf 15 = .ok (.getfield 186, 3) := by decide +kernel
theorem dX11_leaf_18 : decode cX11_leaf 18 = .ok (.iconst 1, 1) := by decide +kernel
theorem dX11_leaf_19 : decode cX11_leaf 19 = .ok (.iadd, 1) := by decide +kernel
theorem dX11_leaf_20 : decode cX11_leaf 20 = .ok (.putfield 186, 3) := by decide +kernel
theorem dX11_leaf_23 : decode cX11_leaf 23 = .ok (.aload_n 0, 1) := by decide +kernel
theorem dX11_leaf_24 : decode cX11_leaf 24 = .ok (.invokevirtual 173, 3) := by decide +kernel
theorem dX11_leaf_27 : decode cX11_leaf 27 = .ok (.ifCond .eq 13, 3) := by decide +kernel
theorem dX11_leaf_30 : decode cX11_leaf 30 = .ok (.aload_n 0, 1) := by decide +kernel
theorem dX11_leaf_31 : decode cX11_leaf 31 = .ok (.dup, 1) := by decide +kernel
theorem dX11_leaf_32 : decode cX11_leaf 32 = .ok (.getfield 177, 3) := by decide +kernel
theorem dX11_leaf_35 : decode cX11_leaf 35 = .ok (.iconst 1, 1) := by decide +kernel
theorem dX11_leaf_36 : decode cX11_leaf 36 = .ok (.iadd, 1) := by decide +kernel
theorem dX11_leaf_37 : decode cX11_leaf 37 = .ok (.putfield 177, 3) := by decide +kernel
theorem dX11_leaf_40 : decode cX11_leaf 40 = .ok (.return_, 1) := by decide +kernel
theorem dX11_sign_0 : decode cX11_sign 0 = .ok (.bipush 100, 2) := by decide +kernel
theorem dX11_sign_2 : decode cX11_sign 2 = .ok (.iload_n 0, 1) := by decide +kernel
theorem dX11_sign_3 : decode cX11_sign 3 = .ok (.iadd, 1) := by decide +kernel
theorem dX11_sign_4 : decode cX11_sign 4 = .ok (.ireturn, 1) := by decide +kernel
theorem dX11_mustNumber_0 : decode cX11_mustNumber 0 = .ok (.aload_n 0, 1) := by decide +kernel
theorem dX11_mustNumber_1 : decode cX11_mustNumber 1 = .ok (.invokevirtual 173, 3) := by decide +kernel
theorem dX11_mustNumber_4 : decode cX11_mustNumber 4 = .ok (.ifCond .eq 38, 3) := by decide +kernel
theorem dX11_mustNumber_7 : decode cX11_mustNumber 7 = .ok (.aload_n 0, 1) := by decide +kernel
theorem dX11_mustNumber_8 : decode cX11_mustNumber 8 = .ok (.getfield 54, 3) := by decide +kernel
theorem dX11_mustNumber_11 : decode cX11_mustNumber 11 = .ok (.aload_n 0, 1) := by decide +kernel
theorem dX11_mustNumber_12 : decode cX11_mustNumber 12 = .ok (.getfield 177, 3) := by decide +kernel
theorem dX11_mustNumber_15 : decode cX11_mustNumber 15 = .ok (.iaload, 1) := by decide +kernel
theorem dX11_mustNumber_16 : decode cX11_mustNumber 16 = .ok (.bipush 50, 2) := by decide +kernel
theorem dX11_mustNumber_18 : decode cX11_mustNumber 18 = .ok (.if_icmp .ne 20, 3) := by decide +kernel
theorem dX11_mustNumber_21 : decode cX11_mustNumber 21 = .ok (.aload_n 0, 1) := by decide +kernel
theorem dX11_mustNumber_22 : decode cX11_mustNumber 22 = .ok (.getfield 57, 3) := by decide +kernel
theorem dX11_mustNumber_25 : decode cX11_mustNumber 25 = .ok (.aload_n 0, 1) := by decide +kernel
theorem dX11_mustNumber_26 : decode cX11_mustNumber 26 = .ok (.getfield 177, 3) := by decide +kernel
theorem dX11_mustNumber_29 : decode cX11_mustNumber 29 = .ok (.iaload, 1) := by decide +kernel
theorem dX11_mustNumber_30 : decode cX11_mustNumber 30 = .ok (.iload_n 1, 1) := by decide +kernel
theorem dX11_mustNumber_31 : decode cX11_mustNumber 31 = .ok (.iload_n 2, 1) := by decide +kernel
theorem dX11_mustNumber_32 : decode cX11_mustNumber 32 = .ok (.invokestatic 18, 3) := by decide +kernel
theorem dX11_mustNumber_35 : decode cX11_mustNumber 35 = .ok (.ifCond .ne 7, 3) := by decide +kernel
theorem dX11_mustNumber_38 : decode cX11_mustNumber 38 = .ok (.aload_n 0, 1) := by decide +kernel
theorem dX11_mustNumber_39 : decode cX11_mustNumber 39 = .ok (.invokevirtual 183, 3) := by decide +kernel
theorem dX11_mustNumber_42 : decode cX11_mustNumber 42 = .ok (.aload_n 0, 1) := by decide +kernel
theorem dX11_mustNumber_43 : decode cX11_mustNumber 43 = .ok (.invokevirtual 173, 3) := by decide +kernel
theorem dX11_mustNumber_46 : decode cX11_mustNumber 46 = .ok (.ifCond .eq 13, 3) := by decide +kernel
theorem dX11_mustNumber_49 : decode cX11_mustNumber 49 = .ok (.aload_n 0, 1) := by decide +kernel
theorem dX11_mustNumber_50 : decode cX11_mustNumber 50 = .ok (.dup, 1) := by decide +kernel
theorem dX11_mustNumber_51 : decode cX11_mustNumber 51 = .ok (.getfield 177, 3) := by decide +kernel
theorem dX11_mustNumber_54 : decode cX11_mustNumber 54 = .ok (.iconst 1, 1) := by decide +kernel
theorem dX11_mustNumber_55 : decode cX11_mustNumber 55 = .ok (.iadd, 1) := by decide +kernel
theorem dX11_mustNumber_56 : decode cX11_mustNumber 56 = .ok (.putfield 177, 3) := by decide +kernel
theorem dX11_mustNumber_59 : decode cX11_mustNumber 59 = .ok (.return_, 1) := by decide +kernel
theorem dX11_readClause_0 : decode cX11_readClause 0 = .ok (.aload_n 0, 1) := by decide +kernel
theorem dX11_readClause_1 : decode cX11_readClause 1 = .ok (.iconst 1, 1) := by decide +kernel
theorem dX11_readClause_2 : decode cX11_readClause 2 = .ok (.invokevirtual 180, 3) := by decide +kernel
theorem dX11_readClause_5 : decode cX11_readClause 5 = .ok (.ifCond .eq 11, 3) := by decide +kernel
theorem dX11_readClause_8 : decode cX11_readClause 8 = .ok (.aload_n 0, 1) := by decide +kernel
theorem dX11_readClause_9 : decode cX11_readClause 9 = .ok (.iconst 0, 1) := by decide +kernel
theorem dX11_readClause_10 : decode cX11_readClause 10 = .ok (.invokevirtual 189, 3) := by decide +kernel
theorem dX11_readClause_13 : decode cX11_readClause 13 = .ok (.goto 16, 3) := by decide +kernel
theorem dX11_readClause_16 : decode cX11_readClause 16 = .ok (.aload_n 0, 1) := by decide +kernel
theorem dX11_readClause_17 : decode cX11_readClause 17 = .ok (.iconst 2, 1) := by decide +kernel
theorem dX11_readClause_18 : decode cX11_readClause 18 = .ok (.invokevirtual 180, 3) := by decide +kernel
theorem dX11_readClause_21 : decode cX11_readClause 21 = .ok (.ifCond .ne 8, 3) := by decide +kernel
theorem dX11_readClause_24 : decode cX11_readClause 24 = .ok (.aload_n 0, 1) := by decide +kernel
theorem dX11_readClause_25 : decode cX11_readClause 25 = .ok (.iconst 3, 1) := by decide +kernel
theorem dX11_readClause_26 : decode cX11_readClause 26 = .ok (.invokevirtual 193, 3) := by decide +kernel
theorem dX11_readClause_29 : decode cX11_readClause 29 = .ok (.aload_n 0, 1) := by decide +kernel
theorem dX11_readClause_30 : decode cX11_readClause 30 = .ok (.iconst 4, 1) := by decide +kernel
theorem dX11_readClause_31 : decode cX11_readClause 31 = .ok (.invokevirtual 180, 3) := by decide +kernel
theorem dX11_readClause_34 : decode cX11_readClause 34 = .ok (.ifCond .eq 8, 3) := by decide +kernel
theorem dX11_readClause_37 : decode cX11_readClause 37 = .ok (.aload_n 0, 1) := by decide +kernel
theorem dX11_readClause_38 : decode cX11_readClause 38 = .ok (.iconst 0, 1) := by decide +kernel
theorem dX11_readClause_39 : decode cX11_readClause 39 = .ok (.invokevirtual 196, 3) := by decide +kernel
theorem dX11_readClause_42 : decode cX11_readClause 42 = .ok (.return_, 1) := by decide +kernel
theorem dX11_readTwo_0 : decode cX11_readTwo 0 = .ok (.aload_n 0, 1) := by decide +kernel
theorem dX11_readTwo_1 : decode cX11_readTwo 1 = .ok (.iconst 0, 1) := by decide +kernel
theorem dX11_readTwo_2 : decode cX11_readTwo 2 = .ok (.invokevirtual 189, 3) := by decide +kernel
theorem dX11_readTwo_5 : decode cX11_readTwo 5 = .ok (.aload_n 0, 1) := by decide +kernel
theorem dX11_readTwo_6 : decode cX11_readTwo 6 = .ok (.iload_n 1, 1) := by decide +kernel
theorem dX11_readTwo_7 : decode cX11_readTwo 7 = .ok (.invokevirtual 193, 3) := by decide +kernel
theorem dX11_readTwo_10 : decode cX11_readTwo 10 = .ok (.aload_n 0, 1) := by decide +kernel
theorem dX11_readTwo_11 : decode cX11_readTwo 11 = .ok (.iconst 0, 1) := by decide +kernel
theorem dX11_readTwo_12 : decode cX11_readTwo 12 = .ok (.invokevirtual 189, 3) := by decide +kernel
theorem dX11_readTwo_15 : decode cX11_readTwo 15 = .ok (.return_, 1) := by decide +kernel
theorem dX11_readOrder_0 : decode cX11_readOrder 0 = .ok (.aload_n 0, 1) := by decide +kernel
theorem dX11_readOrder_1 : decode cX11_readOrder 1 = .ok (.bipush 20, 2) := by decide +kernel
theorem dX11_readOrder_3 : decode cX11_readOrder 3 = .ok (.invokevirtual 180, 3) := by decide +kernel
theorem dX11_readOrder_6 : decode cX11_readOrder 6 = .ok (.ifCond .eq 12, 3) := by decide +kernel
theorem dX11_readOrder_9 : decode cX11_readOrder 9 = .ok (.aload_n 0, 1) := by decide +kernel
theorem dX11_readOrder_10 : decode cX11_readOrder 10 = .ok (.bipush 19, 2) := by decide +kernel
theorem dX11_readOrder_12 : decode cX11_readOrder 12 = .ok (.invokevirtual 199, 3) := by decide +kernel
theorem dX11_readOrder_15 : decode cX11_readOrder 15 = .ok (.goto 44, 3) := by decide +kernel
theorem dX11_readOrder_18 : decode cX11_readOrder 18 = .ok (.aload_n 0, 1) := by decide +kernel
theorem dX11_readOrder_19 : decode cX11_readOrder 19 = .ok (.bipush 21, 2) := by decide +kernel
theorem dX11_readOrder_21 : decode cX11_readOrder 21 = .ok (.invokevirtual 180, 3) := by decide +kernel
theorem dX11_readOrder_24 : decode cX11_readOrder 24 = .ok (.ifCond .eq 12, 3) := by decide +kernel
theorem dX11_readOrder_27 : decode cX11_readOrder 27 = .ok (.aload_n 0, 1) := by decide +kernel
theorem dX11_readOrder_28 : decode cX11_readOrder 28 = .ok (.bipush 22, 2) := by decide +kernel
theorem dX11_readOrder_30 : decode cX11_readOrder 30 = .ok (.invokevirtual 199, 3) := by decide +kernel
theorem dX11_readOrder_33 : decode cX11_readOrder 33 = .ok (.goto 26, 3) := by decide +kernel
theorem dX11_readOrder_36 : decode cX11_readOrder 36 = .ok (.aload_n 0, 1) := by decide +kernel
theorem dX11_readOrder_37 : decode cX11_readOrder 37 = .ok (.bipush 23, 2) := by decide +kernel
theorem dX11_readOrder_39 : decode cX11_readOrder 39 = .ok (.invokevirtual 180, 3) := by decide +kernel
theorem dX11_readOrder_42 : decode cX11_readOrder 42 = .ok (.ifCond .eq 11, 3) := by decide +kernel
theorem dX11_readOrder_45 : decode cX11_readOrder 45 = .ok (.aload_n 0, 1) := by decide +kernel
theorem dX11_readOrder_46 : decode cX11_readOrder 46 = .ok (.iconst 0, 1) := by decide +kernel
theorem dX11_readOrder_47 : decode cX11_readOrder 47 = .ok (.invokevirtual 189, 3) := by decide +kernel
theorem dX11_readOrder_50 : decode cX11_readOrder 50 = .ok (.goto 9, 3) := by decide +kernel
theorem dX11_readOrder_53 : decode cX11_readOrder 53 = .ok (.aload_n 0, 1) := by decide +kernel
