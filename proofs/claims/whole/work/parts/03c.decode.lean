theorem dX10_init_0 : decode cX10_init 0 = .ok (.aload_n 0, 1) := by decide +kernel
theorem dX10_init_1 : decode cX10_init 1 = .ok (.invokespecial 3, 3) := by decide +kernel
theorem dX10_init_4 : decode cX10_init 4 = .ok (.aload_n 0, 1) := by decide +kernel
theorem dX10_init_5 : decode cX10_init 5 = .ok (.new 9, 3) := by decide +kernel
theorem dX10_init_8 : decode cX10_init 8 = .ok (.dup, 1) := by decide +kernel
theorem dX10_init_9 : decode cX10_init 9 = .ok (.invokespecial 11, 3) := by decide +kernel
theorem dX10_init_12 : decode cX10_init 12 = .ok (.putfield 12, 3) := by decide +kernel
theorem dX10_init_15 : decode cX10_init 15 = .ok (.aload_n 0, 1) := by decide +kernel
theorem dX10_init_16 : decode cX10_init 16 = .ok (.new 9, 3) := by decide +kernel
theorem dX10_init_19 : decode cX10_init 19 = .ok (.dup, 1) := by decide +kernel
theorem dX10_init_20 : decode cX10_init 20 = .ok (.invokespecial 11, 3) := by decide +kernel
theorem dX10_init_23 : decode cX10_init 23 = .ok (.putfield 16, 3) := by decide +kernel
theorem dX10_init_26 : decode cX10_init 26 = .ok (.aload_n 0, 1) := by decide +kernel
theorem dX10_init_27 : decode cX10_init 27 = .ok (.new 9, 3) := by decide +kernel
theorem dX10_init_30 : decode cX10_init 30 = .ok (.dup, 1) := by decide +kernel
theorem dX10_init_31 : decode cX10_init 31 = .ok (.invokespecial 11, 3) := by decide +kernel
theorem dX10_init_34 : decode cX10_init 34 = .ok (.putfield 19, 3) := by decide +kernel
theorem dX10_init_37 : decode cX10_init 37 = .ok (.aload_n 0, 1) := by decide +kernel
theorem dX10_init_38 : decode cX10_init 38 = .ok (.iconst 2, 1) := by decide +kernel
theorem dX10_init_39 : decode cX10_init 39 = .ok (.anewarray 9, 3) := by decide +kernel
theorem dX10_init_42 : decode cX10_init 42 = .ok (.dup, 1) := by decide +kernel
theorem dX10_init_43 : decode cX10_init 43 = .ok (.iconst 0, 1) := by decide +kernel
theorem dX10_init_44 : decode cX10_init 44 = .ok (.new 9, 3) := by decide +kernel
theorem dX10_init_47 : decode cX10_init 47 = .ok (.dup, 1) := by decide +kernel
theorem dX10_init_48 : decode cX10_init 48 = .ok (.invokespecial 11, 3) := by decide +kernel
theorem dX10_init_51 : decode cX10_init 51 = .ok (.aastore, 1) := by decide +kernel
theorem dX10_init_52 : decode cX10_init 52 = .ok (.dup, 1) := by decide +kernel
theorem dX10_init_53 : decode cX10_init 53 = .ok (.iconst 1, 1) := by decide +kernel
theorem dX10_init_54 : decode cX10_init 54 = .ok (.new 9, 3) := by decide +kernel
theorem dX10_init_57 : decode cX10_init 57 = .ok (.dup, 1) := by decide +kernel
theorem dX10_init_58 : decode cX10_init 58 = .ok (.invokespecial 11, 3) := by decide +kernel
theorem dX10_init_61 : decode cX10_init 61 = .ok (.aastore, 1) := by decide +kernel
theorem dX10_init_62 : decode cX10_init 62 = .ok (.putfield 22, 3) := by decide +kernel
theorem dX10_init_65 : decode cX10_init 65 = .ok (.aload_n 0, 1) := by decide +kernel
theorem dX10_init_66 : decode cX10_init 66 = .ok (.iconst 2, 1) := by decide +kernel
theorem dX10_init_67 : decode cX10_init 67 = .ok (.newarray .boolean, 2) := by decide +kernel
theorem dX10_init_69 : decode cX10_init 69 = .ok (.putfield 26, 3) := by decide +kernel
theorem dX10_init_72 : decode cX10_init 72 = .ok (.aload_n 0, 1) := by decide +kernel
theorem dX10_init_73 : decode cX10_init 73 = .ok (.new 30, 3) := by decide +kernel
theorem dX10_init_76 : decode cX10_init 76 = .ok (.dup, 1) := by decide +kernel
theorem dX10_init_77 : decode cX10_init 77 = .ok (.invokespecial 32, 3) := by decide +kernel
theorem dX10_init_80 : decode cX10_init 80 = .ok (.putfield 33, 3) := by decide +kernel
theorem dX10_init_83 : decode cX10_init 83 = .ok (.aload_n 0, 1) := by decide +kernel
theorem dX10_init_84 : decode cX10_init 84 = .ok (.new 30, 3) := by decide +kernel
theorem dX10_init_87 : decode cX10_init 87 = .ok (.dup, 1) := by decide +kernel
theorem dX10_init_88 : decode cX10_init 88 = .ok (.invokespecial 32, 3) := by decide +kernel
theorem dX10_init_91 : decode cX10_init 91 = .ok (.putfield 37, 3) := by decide +kernel
theorem dX10_init_94 : decode cX10_init 94 = .ok (.aload_n 0, 1) := by decide +kernel
theorem dX10_init_95 : decode cX10_init 95 = .ok (.new 40, 3) := by decide +kernel
theorem dX10_init_98 : decode cX10_init 98 = .ok (.dup, 1) := by decide +kernel
theorem dX10_init_99 : decode cX10_init 99 = .ok (.invokespecial 42, 3) := by decide +kernel
theorem dX10_init_102 : decode cX10_init 102 = .ok (.putfield 43, 3) := by decide +kernel
theorem dX10_init_105 : decode cX10_init 105 = .ok (.aload_n 0, 1) := by decide +kernel
theorem dX10_init_106 : decode cX10_init 106 = .ok (.new 47, 3) := by decide +kernel
theorem dX10_init_109 : decode cX10_init 109 = .ok (.dup, 1) := by decide +kernel
theorem dX10_init_110 : decode cX10_init 110 = .ok (.aload_n 0, 1) := by decide +kernel
theorem dX10_init_111 : decode cX10_init 111 = .ok (.getfield 43, 3) := by decide +kernel
theorem dX10_init_114 : decode cX10_init 114 = .ok (.invokespecial 49, 3) := by decide +kernel
theorem dX10_init_117 : decode cX10_init 117 = .ok (.putfield 52, 3) := by decide +kernel
theorem dX10_init_120 : decode cX10_init 120 = .ok (.aload_n 0, 1) := by decide +kernel
theorem dX10_init_121 : decode cX10_init 121 = .ok (.new 56, 3) := by decide +kernel
theorem dX10_init_124 : decode cX10_init 124 = .ok (.dup, 1) := by decide +kernel
theorem dX10_init_125 : decode cX10_init 125 = .ok (.invokespecial 58, 3) := by decide +kernel
theorem dX10_init_128 : decode cX10_init 128 = .ok (.putfield 59, 3) := by decide +kernel
theorem dX10_init_131 : decode cX10_init 131 = .ok (.aload_n 0, 1) := by decide +kernel
theorem dX10_init_132 : decode cX10_init 132 = .ok (.new 63, 3) := by decide +kernel
theorem dX10_init_135 : decode cX10_init 135 = .ok (.dup, 1) := by decide +kernel
theorem dX10_init_136 : decode cX10_init 136 = .ok (.aload_n 0, 1) := by decide +kernel
theorem dX10_init_137 : decode cX10_init 137 = .ok (.getfield 59, 3) := by decide +kernel
theorem dX10_init_140 : decode cX10_init 140 = .ok (.invokespecial 65, 3) := by decide +kernel
theorem dX10_init_143 : decode cX10_init 143 = .ok (.putfield 68, 3) := by decide +kernel
theorem dX10_init_146 : decode cX10_init 146 = .ok (.aload_n 0, 1) := by decide +kernel
theorem dX10_init_147 : decode cX10_init 147 = .ok (.new 72, 3) := by decide +kernel
theorem dX10_init_150 : decode cX10_init 150 = .ok (.dup, 1) := by decide +kernel
theorem dX10_init_151 : decode cX10_init 151 = .ok (.aload_n 0, 1) := by decide +kernel
theorem dX10_init_152 : decode cX10_init 152 = .ok (.getfield 59, 3) := by decide +kernel
theorem dX10_init_155 : decode cX10_init 155 = .ok (.aload_n 0, 1) := by decide +kernel
theorem dX10_init_156 : decode cX10_init 156 = .ok (.getfield 68, 3) := by decide +kernel
theorem dX10_init_159 : decode cX10_init 159 = .ok (.invokespecial 74, 3) := by decide +kernel
theorem dX10_init_162 : decode cX10_init 162 = .ok (.putfield 77, 3) := by decide +kernel
theorem dX10_init_165 : decode cX10_init 165 = .ok (.aload_n 0, 1) := by decide +kernel
theorem dX10_init_166 : decode cX10_init 166 = .ok (.new 81, 3) := by decide +kernel
theorem dX10_init_169 : decode cX10_init 169 = .ok (.dup, 1) := by decide +kernel
theorem dX10_init_170 : decode cX10_init 170 = .ok (.aload_n 0, 1) := by decide +kernel
theorem dX10_init_171 : decode cX10_init 171 = .ok (.getfield 59, 3) := by decide +kernel
theorem dX10_init_174 : decode cX10_init 174 = .ok (.invokespecial 83, 3) := by decide +kernel
theorem dX10_init_177 : decode cX10_init 177 = .ok (.putfield 84, 3) := by decide +kernel
theorem dX10_init_180 : decode cX10_init 180 = .ok (.aload_n 0, 1) := by decide +kernel
theorem dX10_init_181 : decode cX10_init 181 = .ok (.bipush 20, 2) := by decide +kernel
theorem dX10_init_183 : decode cX10_init 183 = .ok (.newarray .long, 2) := by decide +kernel
theorem dX10_init_185 : decode cX10_init 185 = .ok (.putfield 88, 3) := by decide +kernel
theorem dX10_init_188 : decode cX10_init 188 = .ok (.aload_n 0, 1) := by decide +kernel
theorem dX10_init_189 : decode cX10_init 189 = .ok (.bipush 7, 2) := by decide +kernel
theorem dX10_init_191 : decode cX10_init 191 = .ok (.newarray .int, 2) := by decide +kernel
theorem dX10_init_193 : decode cX10_init 193 = .ok (.putfield 92, 3) := by decide +kernel
theorem dX10_init_196 : decode cX10_init 196 = .ok (.aload_n 0, 1) := by decide +kernel
theorem dX10_init_197 : decode cX10_init 197 = .ok (.iconst 0, 1) := by decide +kernel
theorem dX10_init_198 : decode cX10_init 198 = .ok (.putfield 96, 3) := by decide +kernel
theorem dX10_init_201 : decode cX10_init 201 = .ok (.aload_n 0, 1) := by decide +kernel
theorem dX10_init_202 : decode cX10_init 202 = .ok (.iconst (-1), 1) := by decide +kernel
theorem dX10_init_203 : decode cX10_init 203 = .ok (.putfield 100, 3) := by decide +kernel
theorem dX10_init_206 : decode cX10_init 206 = .ok (.aload_n 0, 1) := by decide +kernel
theorem dX10_init_207 : decode cX10_init 207 = .ok (.iconst (-1), 1) := by decide +kernel
theorem dX10_init_208 : decode cX10_init 208 = .ok (.putfield 103, 3) := by decide +kernel
theorem dX10_init_211 : decode cX10_init 211 = .ok (.aload_n 0, 1) := by decide +kernel
theorem dX10_init_212 : decode cX10_init 212 = .ok (.iconst 0, 1) := by decide +kernel
theorem dX10_init_213 : decode cX10_init 213 = .ok (.putfield 106, 3) := by decide +kernel
theorem dX10_init_216 : decode cX10_init 216 = .ok (.return_, 1) := by decide +kernel
theorem dX10_drum_0 : decode cX10_drum 0 = .ok (.iload_n 1, 1) := by decide +kernel
theorem dX10_drum_1 : decode cX10_drum 1 = .ok (.iload_n 2, 1) := by decide +kernel
theorem dX10_drum_2 : decode cX10_drum 2 = .ok (.iload_n 3, 1) := by decide +kernel
theorem dX10_drum_3 : decode cX10_drum 3 = .ok (.iload 4, 2) := by decide +kernel
theorem dX10_drum_5 : decode cX10_drum 5 = .ok (.invokestatic 109, 3) := by decide +kernel
theorem dX10_drum_8 : decode cX10_drum 8 = .ok (.ifCond .ne 9, 3) := by decide +kernel
theorem dX10_drum_11 : decode cX10_drum 11 = .ok (.aload_n 0, 1) := by decide +kernel
theorem dX10_drum_12 : decode cX10_drum 12 = .ok (.iconst (-1), 1) := by decide +kernel
theorem dX10_drum_13 : decode cX10_drum 13 = .ok (.invokevirtual 113, 3) := by decide +kernel
theorem dX10_drum_16 : decode cX10_drum 16 = .ok (.ireturn, 1) := by decide +kernel
theorem dX10_drum_17 : decode cX10_drum 17 = .ok (.aload_n 0, 1) := by decide +kernel
theorem dX10_drum_18 : decode cX10_drum 18 = .ok (.getfield 12, 3) := by decide +kernel
theorem dX10_drum_21 : decode cX10_drum 21 = .ok (.getfield 117, 3) := by decide +kernel
theorem dX10_drum_24 : decode cX10_drum 24 = .ok (.bipush 6, 2) := by decide +kernel
theorem dX10_drum_26 : decode cX10_drum 26 = .ok (.if_icmp .lt 10, 3) := by decide +kernel
theorem dX10_drum_29 : decode cX10_drum 29 = .ok (.aload_n 0, 1) := by decide +kernel
theorem dX10_drum_30 : decode cX10_drum 30 = .ok (.bipush (-5), 2) := by decide +kernel
theorem dX10_drum_32 : decode cX10_drum 32 = .ok (.invokevirtual 113, 3) := by decide +kernel
theorem dX10_drum_35 : decode cX10_drum 35 = .ok (.ireturn, 1) := by decide +kernel
theorem dX10_drum_36 : decode cX10_drum 36 = .ok (.aload_n 0, 1) := by decide +kernel
theorem dX10_drum_37 : decode cX10_drum 37 = .ok (.getfield 12, 3) := by decide +kernel
theorem dX10_drum_40 : decode cX10_drum 40 = .ok (.iload_n 1, 1) := by decide +kernel
theorem dX10_drum_41 : decode cX10_drum 41 = .ok (.iload_n 2, 1) := by decide +kernel
theorem dX10_drum_42 : decode cX10_drum 42 = .ok (.iload_n 3, 1) := by decide +kernel
theorem dX10_drum_43 : decode cX10_drum 43 = .ok (.iload 4, 2) := by decide +kernel
theorem dX10_drum_45 : decode cX10_drum 45 = .ok (.invokevirtual 120, 3) := by decide +kernel
theorem dX10_drum_48 : decode cX10_drum 48 = .ok (.aload_n 0, 1) := by decide +kernel
theorem dX10_drum_49 : decode cX10_drum 49 = .ok (.getfield 33, 3) := by decide +kernel
theorem dX10_drum_52 : decode cX10_drum 52 = .ok (.invokevirtual 124, 3) := by decide +kernel
theorem dX10_drum_55 : decode cX10_drum 55 = .ok (.aload_n 0, 1) := by decide +kernel
theorem dX10_drum_56 : decode cX10_drum 56 = .ok (.aload_n 0, 1) := by decide +kernel
theorem dX10_drum_57 : decode cX10_drum 57 = .ok (.getfield 12, 3) := by decide +kernel
theorem dX10_drum_60 : decode cX10_drum 60 = .ok (.getfield 117, 3) := by decide +kernel
theorem dX10_drum_63 : decode cX10_drum 63 = .ok (.iconst 1, 1) := by decide +kernel
theorem dX10_drum_64 : decode cX10_drum 64 = .ok (.isub, 1) := by decide +kernel
theorem dX10_drum_65 : decode cX10_drum 65 = .ok (.invokevirtual 127, 3) := by decide +kernel
theorem dX10_drum_68 : decode cX10_drum 68 = .ok (.ireturn, 1) := by decide +kernel
theorem dX10_of_0 : decode cX10_of 0 = .ok (.aload_n 0, 1) := by decide +kernel
theorem dX10_of_1 : decode cX10_of 1 = .ok (.getfield 12, 3) := by decide +kernel
theorem dX10_of_4 : decode cX10_of 4 = .ok (.iload_n 1, 1) := by decide +kernel
theorem dX10_of_5 : decode cX10_of 5 = .ok (.invokevirtual 130, 3) := by decide +kernel
theorem dX10_of_8 : decode cX10_of 8 = .ok (.ifCond .ne 5, 3) := by decide +kernel
theorem dX10_of_11 : decode cX10_of 11 = .ok (.iconst (-1), 1) := by decide +kernel
theorem dX10_of_12 : decode cX10_of 12 = .ok (.ireturn, 1) := by decide +kernel
theorem dX10_of_13 : decode cX10_of 13 = .ok (.iload_n 2, 1) := by decide +kernel
theorem dX10_of_14 : decode cX10_of 14 = .ok (.tableswitch 113 0 5 #[38, 48, 58, 68, 78, 95], 38) := by decide +kernel
theorem dX10_of_52 : decode cX10_of 52 = .ok (.aload_n 0, 1) := by decide +kernel
theorem dX10_of_53 : decode cX10_of 53 = .ok (.getfield 12, 3) := by decide +kernel
theorem dX10_of_56 : decode cX10_of 56 = .ok (.getfield 134, 3) := by decide +kernel
theorem dX10_of_59 : decode cX10_of 59 = .ok (.iload_n 1, 1) := by decide +kernel
theorem dX10_of_60 : decode cX10_of 60 = .ok (.iaload, 1) := by decide +kernel
theorem dX10_of_61 : decode cX10_of 61 = .ok (.ireturn, 1) := by decide +kernel
theorem dX10_of_62 : decode cX10_of 62 = .ok (.aload_n 0, 1) := by decide +kernel
theorem dX10_of_63 : decode cX10_of 63 = .ok (.getfield 12, 3) := by decide +kernel
theorem dX10_of_66 : decode cX10_of 66 = .ok (.getfield 137, 3) := by decide +kernel
theorem dX10_of_69 : decode cX10_of 69 = .ok (.iload_n 1, 1) := by decide +kernel
theorem dX10_of_70 : decode cX10_of 70 = .ok (.iaload, 1) := by decide +kernel
theorem dX10_of_71 : decode cX10_of 71 = .ok (.ireturn, 1) := by decide +kernel
theorem dX10_of_72 : decode cX10_of 72 = .ok (.aload_n 0, 1) := by decide +kernel
theorem dX10_of_73 : decode cX10_of 73 = .ok (.getfield 12, 3) := by decide +kernel
theorem dX10_of_76 : decode cX10_of 76 = .ok (.getfield 140, 3) := by decide +kernel
theorem dX10_of_79 : decode cX10_of 79 = .ok (.iload_n 1, 1) := by decide +kernel
theorem dX10_of_80 : decode cX10_of 80 = .ok (.iaload, 1) := by decide +kernel
theorem dX10_of_81 : decode cX10_of 81 = .ok (.ireturn, 1) := by decide +kernel
theorem dX10_of_82 : decode cX10_of 82 = .ok (.aload_n 0, 1) := by decide +kernel
theorem dX10_of_83 : decode cX10_of 83 = .ok (.getfield 12, 3) := by decide +kernel
theorem dX10_of_86 : decode cX10_of 86 = .ok (.getfield 143, 3) := by decide +kernel
theorem dX10_of_89 : decode cX10_of 89 = .ok (.iload_n 1, 1) := by decide +kernel
theorem dX10_of_90 : decode cX10_of 90 = .ok (.iaload, 1) := by decide +kernel
theorem dX10_of_91 : decode cX10_of 91 = .ok (.ireturn, 1) := by decide +kernel
theorem dX10_of_92 : decode cX10_of 92 = .ok (.aload_n 0, 1) := by decide +kernel
theorem dX10_of_93 : decode cX10_of 93 = .ok (.getfield 12, 3) := by decide +kernel
theorem dX10_of_96 : decode cX10_of 96 = .ok (.iload_n 1, 1) := by decide +kernel
theorem dX10_of_97 : decode cX10_of 97 = .ok (.invokevirtual 146, 3) := by decide +kernel
theorem dX10_of_100 : decode cX10_of 100 = .ok (.ifCond .eq 7, 3) := by decide +kernel
theorem dX10_of_103 : decode cX10_of 103 = .ok (.iconst 1, 1) := by decide +kernel
theorem dX10_of_104 : decode cX10_of 104 = .ok (.goto 4, 3) := by decide +kernel
theorem dX10_of_107 : decode cX10_of 107 = .ok (.iconst 0, 1) := by decide +kernel
theorem dX10_of_108 : decode cX10_of 108 = .ok (.ireturn, 1) := by decide +kernel
theorem dX10_of_109 : decode cX10_of 109 = .ok (.aload_n 0, 1) := by decide +kernel
theorem dX10_of_110 : decode cX10_of 110 = .ok (.getfield 12, 3) := by decide +kernel
theorem dX10_of_113 : decode cX10_of 113 = .ok (.iload_n 1, 1) := by decide +kernel
theorem dX10_of_114 : decode cX10_of 114 = .ok (.iconst 0, 1) := by decide +kernel
theorem dX10_of_115 : decode cX10_of 115 = .ok (.invokevirtual 149, 3) := by decide +kernel
theorem dX10_of_118 : decode cX10_of 118 = .ok (.ifCond .eq 7, 3) := by decide +kernel
theorem dX10_of_121 : decode cX10_of 121 = .ok (.iconst 1, 1) := by decide +kernel
theorem dX10_of_122 : decode cX10_of 122 = .ok (.goto 4, 3) := by decide +kernel
theorem dX10_of_125 : decode cX10_of 125 = .ok (.iconst 0, 1) := by decide +kernel
theorem dX10_of_126 : decode cX10_of 126 = .ok (.ireturn, 1) := by decide +kernel
theorem dX10_of_127 : decode cX10_of 127 = .ok (.iconst (-1), 1) := by decide +kernel
theorem dX10_of_128 : decode cX10_of 128 = .ok (.ireturn, 1) := by decide +kernel
theorem dX10_asks_0 : decode cX10_asks 0 = .ok (.aload_n 0, 1) := by decide +kernel
theorem dX10_asks_1 : decode cX10_asks 1 = .ok (.getfield 12, 3) := by decide +kernel
theorem dX10_asks_4 : decode cX10_asks 4 = .ok (.iload_n 1, 1) := by decide +kernel
theorem dX10_asks_5 : decode cX10_asks 5 = .ok (.iload_n 2, 1) := by decide +kernel
theorem dX10_asks_6 : decode cX10_asks 6 = .ok (.invokevirtual 153, 3) := by decide +kernel
theorem dX10_asks_9 : decode cX10_asks 9 = .ok (.ifCond .eq 12, 3) := by decide +kernel
theorem dX10_asks_12 : decode cX10_asks 12 = .ok (.iload_n 3, 1) := by decide +kernel
theorem dX10_asks_13 : decode cX10_asks 13 = .ok (.ifCond .lt 8, 3) := by decide +kernel
theorem dX10_asks_16 : decode cX10_asks 16 = .ok (.iload_n 3, 1) := by decide +kernel
theorem dX10_asks_17 : decode cX10_asks 17 = .ok (.iconst 2, 1) := by decide +kernel
theorem dX10_asks_18 : decode cX10_asks 18 = .ok (.if_icmp .le 5, 3) := by decide +kernel
theorem dX10_asks_21 : decode cX10_asks 21 = .ok (.iconst (-1), 1) := by decide +kernel
theorem dX10_asks_22 : decode cX10_asks 22 = .ok (.ireturn, 1) := by decide +kernel
theorem dX10_asks_23 : decode cX10_asks 23 = .ok (.aload_n 0, 1) := by decide +kernel
theorem dX10_asks_24 : decode cX10_asks 24 = .ok (.getfield 12, 3) := by decide +kernel
theorem dX10_asks_27 : decode cX10_asks 27 = .ok (.aload_n 0, 1) := by decide +kernel
theorem dX10_asks_28 : decode cX10_asks 28 = .ok (.getfield 12, 3) := by decide +kernel
theorem dX10_asks_31 : decode cX10_asks 31 = .ok (.getfield 156, 3) := by decide +kernel
theorem dX10_asks_34 : decode cX10_asks 34 = .ok (.invokevirtual 159, 3) := by decide +kernel
theorem dX10_asks_37 : decode cX10_asks 37 = .ok (.astore 4, 2) := by decide +kernel
theorem dX10_asks_39 : decode cX10_asks 39 = .ok (.iload_n 3, 1) := by decide +kernel
theorem dX10_asks_40 : decode cX10_asks 40 = .ok (.ifCond .ne 19, 3) := by decide +kernel
theorem dX10_asks_43 : decode cX10_asks 43 = .ok (.aload_n 0, 1) := by decide +kernel
theorem dX10_asks_44 : decode cX10_asks 44 = .ok (.getfield 59, 3) := by decide +kernel
theorem dX10_asks_47 : decode cX10_asks 47 = .ok (.aload_n 0, 1) := by decide +kernel
theorem dX10_asks_48 : decode cX10_asks 48 = .ok (.getfield 12, 3) := by decide +kernel
theorem dX10_asks_51 : decode cX10_asks 51 = .ok (.aload 4, 2) := by decide +kernel
theorem dX10_asks_53 : decode cX10_asks 53 = .ok (.iload_n 1, 1) := by decide +kernel
theorem dX10_asks_54 : decode cX10_asks 54 = .ok (.iload_n 2, 1) := by decide +kernel
theorem dX10_asks_55 : decode cX10_asks 55 = .ok (.invokevirtual 163, 3) := by decide +kernel
theorem dX10_asks_58 : decode cX10_asks 58 = .ok (.ireturn, 1) := by decide +kernel
theorem dX10_asks_59 : decode cX10_asks 59 = .ok (.aload_n 0, 1) := by decide +kernel
theorem dX10_asks_60 : decode cX10_asks 60 = .ok (.getfield 59, 3) := by decide +kernel
theorem dX10_asks_63 : decode cX10_asks 63 = .ok (.aload_n 0, 1) := by decide +kernel
theorem dX10_asks_64 : decode cX10_asks 64 = .ok (.getfield 12, 3) := by decide +kernel
theorem dX10_asks_67 : decode cX10_asks 67 = .ok (.aload 4, 2) := by decide +kernel
theorem dX10_asks_69 : decode cX10_asks 69 = .ok (.iload_n 3, 1) := by decide +kernel
theorem dX10_asks_70 : decode cX10_asks 70 = .ok (.iload_n 1, 1) := by decide +kernel
theorem dX10_asks_71 : decode cX10_asks 71 = .ok (.iload_n 2, 1) := by decide +kernel
theorem dX10_asks_72 : decode cX10_asks 72 = .ok (.invokevirtual 167, 3) := by decide +kernel
theorem dX10_asks_75 : decode cX10_asks 75 = .ok (.ifCond .eq 7, 3) := by decide +kernel
theorem dX10_asks_78 : decode cX10_asks 78 = .ok (.iconst 1, 1) := by decide +kernel
theorem dX10_asks_79 : decode cX10_asks 79 = .ok (.goto 4, 3) := by decide +kernel
theorem dX10_asks_82 : decode cX10_asks 82 = .ok (.iconst 0, 1) := by decide +kernel
theorem dX10_asks_83 : decode cX10_asks 83 = .ok (.ireturn, 1) := by decide +kernel
theorem dX10_terms_0 : decode cX10_terms 0 = .ok (.iload_n 1, 1) := by decide +kernel
theorem dX10_terms_1 : decode cX10_terms 1 = .ok (.ifCond .lt 24, 3) := by decide +kernel
theorem dX10_terms_4 : decode cX10_terms 4 = .ok (.iload_n 1, 1) := by decide +kernel
theorem dX10_terms_5 : decode cX10_terms 5 = .ok (.getstatic 171, 3) := by decide +kernel
theorem dX10_terms_8 : decode cX10_terms 8 = .ok (.arraylength, 1) := by decide +kernel
theorem dX10_terms_9 : decode cX10_terms 9 = .ok (.if_icmp .ge 16, 3) := by decide +kernel
theorem dX10_terms_12 : decode cX10_terms 12 = .ok (.iload_n 2, 1) := by decide +kernel
theorem dX10_terms_13 : decode cX10_terms 13 = .ok (.ifCond .lt 12, 3) := by decide +kernel
theorem dX10_terms_16 : decode cX10_terms 16 = .ok (.iload_n 2, 1) := by decide +kernel
theorem dX10_terms_17 : decode cX10_terms 17 = .ok (.getstatic 171, 3) := by decide +kernel
theorem dX10_terms_20 : decode cX10_terms 20 = .ok (.iload_n 1, 1) := by decide +kernel
theorem dX10_terms_21 : decode cX10_terms 21 = .ok (.iaload, 1) := by decide +kernel
theorem dX10_terms_22 : decode cX10_terms 22 = .ok (.if_icmp .le 9, 3) := by decide +kernel
theorem dX10_terms_25 : decode cX10_terms 25 = .ok (.aload_n 0, 1) := by decide +kernel
theorem dX10_terms_26 : decode cX10_terms 26 = .ok (.iconst (-1), 1) := by decide +kernel
theorem dX10_terms_27 : decode cX10_terms 27 = .ok (.invokevirtual 113, 3) := by decide +kernel
theorem dX10_terms_30 : decode cX10_terms 30 = .ok (.ireturn, 1) := by decide +kernel
theorem dX10_terms_31 : decode cX10_terms 31 = .ok (.aload_n 0, 1) := by decide +kernel
theorem dX10_terms_32 : decode cX10_terms 32 = .ok (.getfield 12, 3) := by decide +kernel
theorem dX10_terms_35 : decode cX10_terms 35 = .ok (.getfield 174, 3) := by decide +kernel
theorem dX10_terms_38 : decode cX10_terms 38 = .ok (.iload_n 1, 1) := by decide +kernel
theorem dX10_terms_39 : decode cX10_terms 39 = .ok (.iaload, 1) := by decide +kernel
theorem dX10_terms_40 : decode cX10_terms 40 = .ok (.istore_n 3, 1) := by decide +kernel
theorem dX10_terms_41 : decode cX10_terms 41 = .ok (.aload_n 0, 1) := by decide +kernel
theorem dX10_terms_42 : decode cX10_terms 42 = .ok (.getfield 12, 3) := by decide +kernel
theorem dX10_terms_45 : decode cX10_terms 45 = .ok (.getfield 174, 3) := by decide +kernel
theorem dX10_terms_48 : decode cX10_terms 48 = .ok (.iload_n 1, 1) := by decide +kernel
theorem dX10_terms_49 : decode cX10_terms 49 = .ok (.iload_n 2, 1) := by decide +kernel
theorem dX10_terms_50 : decode cX10_terms 50 = .ok (.iastore, 1) := by decide +kernel
theorem dX10_terms_51 : decode cX10_terms 51 = .ok (.aload_n 0, 1) := by decide +kernel
theorem dX10_terms_52 : decode cX10_terms 52 = .ok (.getfield 33, 3) := by decide +kernel
theorem dX10_terms_55 : decode cX10_terms 55 = .ok (.invokevirtual 124, 3) := by decide +kernel
theorem dX10_terms_58 : decode cX10_terms 58 = .ok (.aload_n 0, 1) := by decide +kernel
theorem dX10_terms_59 : decode cX10_terms 59 = .ok (.iload_n 3, 1) := by decide +kernel
theorem dX10_terms_60 : decode cX10_terms 60 = .ok (.invokevirtual 127, 3) := by decide +kernel
theorem dX10_terms_63 : decode cX10_terms 63 = .ok (.ireturn, 1) := by decide +kernel
theorem dX10_feed_0 : decode cX10_feed 0 = .ok (.aload_n 0, 1) := by decide +kernel
theorem dX10_feed_1 : decode cX10_feed 1 = .ok (.getfield 43, 3) := by decide +kernel
theorem dX10_feed_4 : decode cX10_feed 4 = .ok (.getfield 177, 3) := by decide +kernel
theorem dX10_feed_7 : decode cX10_feed 7 = .ok (.bipush 20, 2) := by decide +kernel
theorem dX10_feed_9 : decode cX10_feed 9 = .ok (.iadd, 1) := by decide +kernel
theorem dX10_feed_10 : decode cX10_feed 10 = .ok (.sipush 400, 3) := by decide +kernel
theorem dX10_feed_13 : decode cX10_feed 13 = .ok (.if_icmp .le 5, 3) := by decide +kernel
theorem dX10_feed_16 : decode cX10_feed 16 = .ok (.iconst (-1), 1) := by decide +kernel
theorem dX10_feed_17 : decode cX10_feed 17 = .ok (.ireturn, 1) := by decide +kernel
theorem dX10_feed_18 : decode cX10_feed 18 = .ok (.aload_n 0, 1) := by decide +kernel
theorem dX10_feed_19 : decode cX10_feed 19 = .ok (.getfield 43, 3) := by decide +kernel
theorem dX10_feed_22 : decode cX10_feed 22 = .ok (.iload_n 1, 1) := by decide +kernel
theorem dX10_feed_23 : decode cX10_feed 23 = .ok (.invokevirtual 180, 3) := by decide +kernel
theorem dX10_feed_26 : decode cX10_feed 26 = .ok (.aload_n 0, 1) := by decide +kernel
theorem dX10_feed_27 : decode cX10_feed 27 = .ok (.getfield 43, 3) := by decide +kernel
theorem dX10_feed_30 : decode cX10_feed 30 = .ok (.iload_n 2, 1) := by decide +kernel
theorem dX10_feed_31 : decode cX10_feed 31 = .ok (.invokevirtual 180, 3) := by decide +kernel
theorem dX10_feed_34 : decode cX10_feed 34 = .ok (.aload_n 0, 1) := by decide +kernel
theorem dX10_feed_35 : decode cX10_feed 35 = .ok (.getfield 43, 3) := by decide +kernel
theorem dX10_feed_38 : decode cX10_feed 38 = .ok (.iload_n 3, 1) := by decide +kernel
theorem dX10_feed_39 : decode cX10_feed 39 = .ok (.invokevirtual 180, 3) := by decide +kernel
theorem dX10_feed_42 : decode cX10_feed 42 = .ok (.aload_n 0, 1) := by decide +kernel
theorem dX10_feed_43 : decode cX10_feed 43 = .ok (.getfield 43, 3) := by decide +kernel
theorem dX10_feed_46 : decode cX10_feed 46 = .ok (.iload 4, 2) := by decide +kernel
theorem dX10_feed_48 : decode cX10_feed 48 = .ok (.invokevirtual 180, 3) := by decide +kernel
theorem dX10_feed_51 : decode cX10_feed 51 = .ok (.aload_n 0, 1) := by decide +kernel
theorem dX10_feed_52 : decode cX10_feed 52 = .ok (.getfield 43, 3) := by decide +kernel
theorem dX10_feed_55 : decode cX10_feed 55 = .ok (.iload 5, 2) := by decide +kernel
theorem dX10_feed_57 : decode cX10_feed 57 = .ok (.invokevirtual 180, 3) := by decide +kernel
theorem dX10_feed_60 : decode cX10_feed 60 = .ok (.aload_n 0, 1) := by decide +kernel
theorem dX10_feed_61 : decode cX10_feed 61 = .ok (.getfield 43, 3) := by decide +kernel
theorem dX10_feed_64 : decode cX10_feed 64 = .ok (.getfield 177, 3) := by decide +kernel
theorem dX10_feed_67 : decode cX10_feed 67 = .ok (.ireturn, 1) := by decide +kernel
theorem dX10_end_0 : decode cX10_end 0 = .ok (.iload_n 1, 1) := by decide +kernel
theorem dX10_end_1 : decode cX10_end 1 = .ok (.ifCond .lt 14, 3) := by decide +kernel
theorem dX10_end_4 : decode cX10_end 4 = .ok (.iload_n 1, 1) := by decide +kernel
theorem dX10_end_5 : decode cX10_end 5 = .ok (.aload_n 0, 1) := by decide +kernel
theorem dX10_end_6 : decode cX10_end 6 = .ok (.getfield 43, 3) := by decide +kernel
theorem dX10_end_9 : decode cX10_end 9 = .ok (.getfield 177, 3) := by decide +kernel
theorem dX10_end_12 : decode cX10_end 12 = .ok (.if_icmp .le 5, 3) := by decide +kernel
theorem dX10_end_15 : decode cX10_end 15 = .ok (.iconst (-1), 1) := by decide +kernel
theorem dX10_end_16 : decode cX10_end 16 = .ok (.ireturn, 1) := by decide +kernel
theorem dX10_end_17 : decode cX10_end 17 = .ok (.aload_n 0, 1) := by decide +kernel
theorem dX10_end_18 : decode cX10_end 18 = .ok (.getfield 43, 3) := by decide +kernel
theorem dX10_end_21 : decode cX10_end 21 = .ok (.iload_n 1, 1) := by decide +kernel
theorem dX10_end_22 : decode cX10_end 22 = .ok (.putfield 177, 3) := by decide +kernel
theorem dX10_end_25 : decode cX10_end 25 = .ok (.iload_n 1, 1) := by decide +kernel
theorem dX10_end_26 : decode cX10_end 26 = .ok (.ireturn, 1) := by decide +kernel
theorem dX10_row_0 : decode cX10_row 0 = .ok (.aload_n 0, 1) := by decide +kernel
theorem dX10_row_1 : decode cX10_row 1 = .ok (.getfield 43, 3) := by decide +kernel
theorem dX10_row_4 : decode cX10_row 4 = .ok (.getfield 177, 3) := by decide +kernel
theorem dX10_row_7 : decode cX10_row 7 = .ok (.ifCond .ne 10, 3) := by decide +kernel
theorem dX10_row_10 : decode cX10_row 10 = .ok (.aload_n 0, 1) := by decide +kernel
theorem dX10_row_11 : decode cX10_row 11 = .ok (.bipush (-6), 2) := by decide +kernel
theorem dX10_row_13 : decode cX10_row 13 = .ok (.invokevirtual 113, 3) := by decide +kernel
theorem dX10_row_16 : decode cX10_row 16 = .ok (.ireturn, 1) := by decide +kernel
theorem dX10_row_17 : decode cX10_row 17 = .ok (.aload_n 0, 1) := by decide +kernel
theorem dX10_row_18 : decode cX10_row 18 = .ok (.getfield 12, 3) := by decide +kernel
theorem dX10_row_21 : decode cX10_row 21 = .ok (.getfield 117, 3) := by decide +kernel
theorem dX10_row_24 : decode cX10_row 24 = .ok (.istore_n 1, 1) := by decide +kernel
theorem dX10_row_25 : decode cX10_row 25 = .ok (.aload_n 0, 1) := by decide +kernel
theorem dX10_row_26 : decode cX10_row 26 = .ok (.getfield 43, 3) := by decide +kernel
theorem dX10_row_29 : decode cX10_row 29 = .ok (.getfield 177, 3) := by decide +kernel
theorem dX10_row_32 : decode cX10_row 32 = .ok (.iconst 3, 1) := by decide +kernel
theorem dX10_row_33 : decode cX10_row 33 = .ok (.iadd, 1) := by decide +kernel
theorem dX10_row_34 : decode cX10_row 34 = .ok (.iconst 4, 1) := by decide +kernel
theorem dX10_row_35 : decode cX10_row 35 = .ok (.idiv, 1) := by decide +kernel
theorem dX10_row_36 : decode cX10_row 36 = .ok (.istore_n 2, 1) := by decide +kernel
theorem dX10_row_37 : decode cX10_row 37 = .ok (.iconst 0, 1) := by decide +kernel
theorem dX10_row_38 : decode cX10_row 38 = .ok (.istore_n 3, 1) := by decide +kernel
theorem dX10_row_39 : decode cX10_row 39 = .ok (.iload_n 3, 1) := by decide +kernel
theorem dX10_row_40 : decode cX10_row 40 = .ok (.iload_n 2, 1) := by decide +kernel
theorem dX10_row_41 : decode cX10_row 41 = .ok (.if_icmp .ge 16, 3) := by decide +kernel
theorem dX10_row_44 : decode cX10_row 44 = .ok (.aload_n 0, 1) := by decide +kernel
theorem dX10_row_45 : decode cX10_row 45 = .ok (.iconst 4, 1) := by decide +kernel
theorem dX10_row_46 : decode cX10_row 46 = .ok (.iload_n 3, 1) := by decide +kernel
theorem dX10_row_47 : decode cX10_row 47 = .ok (.imul, 1) := by decide +kernel
theorem dX10_row_48 : decode cX10_row 48 = .ok (.invokevirtual 184, 3) := by decide +kernel
theorem dX10_row_51 : decode cX10_row 51 = .ok (.iinc 3 1, 3) := by decide +kernel
theorem dX10_row_54 : decode cX10_row 54 = .ok (.goto (-15), 3) := by decide +kernel
theorem dX10_row_57 : decode cX10_row 57 = .ok (.aload_n 0, 1) := by decide +kernel
theorem dX10_row_58 : decode cX10_row 58 = .ok (.getfield 12, 3) := by decide +kernel
theorem dX10_row_61 : decode cX10_row 61 = .ok (.getfield 117, 3) := by decide +kernel
theorem dX10_row_64 : decode cX10_row 64 = .ok (.iload_n 1, 1) := by decide +kernel
theorem dX10_row_65 : decode cX10_row 65 = .ok (.isub, 1) := by decide +kernel
theorem dX10_row_66 : decode cX10_row 66 = .ok (.istore_n 3, 1) := by decide +kernel
theorem dX10_row_67 : decode cX10_row 67 = .ok (.aload_n 0, 1) := by decide +kernel
theorem dX10_row_68 : decode cX10_row 68 = .ok (.iload_n 2, 1) := by decide +kernel
theorem dX10_row_69 : decode cX10_row 69 = .ok (.iload_n 3, 1) := by decide +kernel
theorem dX10_row_70 : decode cX10_row 70 = .ok (.isub, 1) := by decide +kernel
theorem dX10_row_71 : decode cX10_row 71 = .ok (.putfield 106, 3) := by decide +kernel
theorem dX10_row_74 : decode cX10_row 74 = .ok (.aload_n 0, 1) := by decide +kernel
theorem dX10_row_75 : decode cX10_row 75 = .ok (.getfield 43, 3) := by decide +kernel
theorem dX10_row_78 : decode cX10_row 78 = .ok (.iconst 0, 1) := by decide +kernel
theorem dX10_row_79 : decode cX10_row 79 = .ok (.putfield 177, 3) := by decide +kernel
theorem dX10_row_82 : decode cX10_row 82 = .ok (.aload_n 0, 1) := by decide +kernel
theorem dX10_row_83 : decode cX10_row 83 = .ok (.getfield 33, 3) := by decide +kernel
theorem dX10_row_86 : decode cX10_row 86 = .ok (.invokevirtual 124, 3) := by decide +kernel
theorem dX10_row_89 : decode cX10_row 89 = .ok (.aload_n 0, 1) := by decide +kernel
theorem dX10_row_90 : decode cX10_row 90 = .ok (.iload_n 3, 1) := by decide +kernel
theorem dX10_row_91 : decode cX10_row 91 = .ok (.invokevirtual 127, 3) := by decide +kernel
theorem dX10_row_94 : decode cX10_row 94 = .ok (.ireturn, 1) := by decide +kernel
theorem dX10_sleeves_0 : decode cX10_sleeves 0 = .ok (.aload_n 0, 1) := by decide +kernel
theorem dX10_sleeves_1 : decode cX10_sleeves 1 = .ok (.getfield 106, 3) := by decide +kernel
theorem dX10_sleeves_4 : decode cX10_sleeves 4 = .ok (.ireturn, 1) := by decide +kernel
theorem dX10_law_0 : decode cX10_law 0 = .ok (.aload_n 0, 1) := by decide +kernel
theorem dX10_law_1 : decode cX10_law 1 = .ok (.getfield 12, 3) := by decide +kernel
theorem dX10_law_4 : decode cX10_law 4 = .ok (.getfield 187, 3) := by decide +kernel
theorem dX10_law_7 : decode cX10_law 7 = .ok (.bipush 6, 2) := by decide +kernel
theorem dX10_law_9 : decode cX10_law 9 = .ok (.if_icmp .lt 18, 3) := by decide +kernel
theorem dX10_law_12 : decode cX10_law 12 = .ok (.aload_n 0, 1) := by decide +kernel
theorem dX10_law_13 : decode cX10_law 13 = .ok (.getfield 43, 3) := by decide +kernel
theorem dX10_law_16 : decode cX10_law 16 = .ok (.iconst 0, 1) := by decide +kernel
theorem dX10_law_17 : decode cX10_law 17 = .ok (.putfield 177, 3) := by decide +kernel
theorem dX10_law_20 : decode cX10_law 20 = .ok (.aload_n 0, 1) := by decide +kernel
theorem dX10_law_21 : decode cX10_law 21 = .ok (.bipush (-5), 2) := by decide +kernel
theorem dX10_law_23 : decode cX10_law 23 = .ok (.invokevirtual 113, 3) := by decide +kernel
theorem dX10_law_26 : decode cX10_law 26 = .ok (.ireturn, 1) := by decide +kernel
theorem dX10_law_27 : decode cX10_law 27 = .ok (.aload_n 0, 1) := by decide +kernel
theorem dX10_law_28 : decode cX10_law 28 = .ok (.aload_n 0, 1) := by decide +kernel
theorem dX10_law_29 : decode cX10_law 29 = .ok (.getfield 52, 3) := by decide +kernel
theorem dX10_law_32 : decode cX10_law 32 = .ok (.iconst 1, 1) := by decide +kernel
theorem dX10_law_33 : decode cX10_law 33 = .ok (.invokevirtual 190, 3) := by decide +kernel
theorem dX10_law_36 : decode cX10_law 36 = .ok (.putfield 100, 3) := by decide +kernel
theorem dX10_law_39 : decode cX10_law 39 = .ok (.aload_n 0, 1) := by decide +kernel
theorem dX10_law_40 : decode cX10_law 40 = .ok (.getfield 43, 3) := by decide +kernel
theorem dX10_law_43 : decode cX10_law 43 = .ok (.iconst 0, 1) := by decide +kernel
theorem dX10_law_44 : decode cX10_law 44 = .ok (.putfield 177, 3) := by decide +kernel
theorem dX10_law_47 : decode cX10_law 47 = .ok (.aload_n 0, 1) := by decide +kernel
theorem dX10_law_48 : decode cX10_law 48 = .ok (.getfield 100, 3) := by decide +kernel
theorem dX10_law_51 : decode cX10_law 51 = .ok (.iconst (-1), 1) := by decide +kernel
theorem dX10_law_52 : decode cX10_law 52 = .ok (.if_icmp .eq 10, 3) := by decide +kernel
theorem dX10_law_55 : decode cX10_law 55 = .ok (.aload_n 0, 1) := by decide +kernel
theorem dX10_law_56 : decode cX10_law 56 = .ok (.bipush (-6), 2) := by decide +kernel
theorem dX10_law_58 : decode cX10_law 58 = .ok (.invokevirtual 113, 3) := by decide +kernel
theorem dX10_law_61 : decode cX10_law 61 = .ok (.ireturn, 1) := by decide +kernel
theorem dX10_law_62 : decode cX10_law 62 = .ok (.aload_n 0, 1) := by decide +kernel
theorem dX10_law_63 : decode cX10_law 63 = .ok (.getfield 12, 3) := by decide +kernel
theorem dX10_law_66 : decode cX10_law 66 = .ok (.getfield 194, 3) := by decide +kernel
theorem dX10_law_69 : decode cX10_law 69 = .ok (.aload_n 0, 1) := by decide +kernel
theorem dX10_law_70 : decode cX10_law 70 = .ok (.getfield 12, 3) := by decide +kernel
theorem dX10_law_73 : decode cX10_law 73 = .ok (.getfield 187, 3) := by decide +kernel
theorem dX10_law_76 : decode cX10_law 76 = .ok (.aload_n 0, 1) := by decide +kernel
theorem dX10_law_77 : decode cX10_law 77 = .ok (.getfield 52, 3) := by decide +kernel
theorem dX10_law_80 : decode cX10_law 80 = .ok (.getfield 198, 3) := by decide +kernel
theorem dX10_law_83 : decode cX10_law 83 = .ok (.invokevirtual 202, 3) := by decide +kernel
theorem dX10_law_86 : decode cX10_law 86 = .ok (.aastore, 1) := by decide +kernel
theorem dX10_law_87 : decode cX10_law 87 = .ok (.aload_n 0, 1) := by decide +kernel
theorem dX10_law_88 : decode cX10_law 88 = .ok (.getfield 12, 3) := by decide +kernel
theorem dX10_law_91 : decode cX10_law 91 = .ok (.dup, 1) := by decide +kernel
theorem dX10_law_92 : decode cX10_law 92 = .ok (.getfield 187, 3) := by decide +kernel
theorem dX10_law_95 : decode cX10_law 95 = .ok (.iconst 1, 1) := by decide +kernel
theorem dX10_law_96 : decode cX10_law 96 = .ok (.iadd, 1) := by decide +kernel
theorem dX10_law_97 : decode cX10_law 97 = .ok (.putfield 187, 3) := by decide +kernel
theorem dX10_law_100 : decode cX10_law 100 = .ok (.aload_n 0, 1) := by decide +kernel
theorem dX10_law_101 : decode cX10_law 101 = .ok (.aload_n 0, 1) := by decide +kernel
theorem dX10_law_102 : decode cX10_law 102 = .ok (.getfield 12, 3) := by decide +kernel
theorem dX10_law_105 : decode cX10_law 105 = .ok (.getfield 187, 3) := by decide +kernel
theorem dX10_law_108 : decode cX10_law 108 = .ok (.iconst 1, 1) := by decide +kernel
theorem dX10_law_109 : decode cX10_law 109 = .ok (.isub, 1) := by decide +kernel
theorem dX10_law_110 : decode cX10_law 110 = .ok (.invokevirtual 127, 3) := by decide +kernel
theorem dX10_law_113 : decode cX10_law 113 = .ok (.ireturn, 1) := by decide +kernel
theorem dX10_orders_0 : decode cX10_orders 0 = .ok (.aload_n 0, 1) := by decide +kernel
theorem dX10_orders_1 : decode cX10_orders 1 = .ok (.iconst (-1), 1) := by decide +kernel
theorem dX10_orders_2 : decode cX10_orders 2 = .ok (.putfield 103, 3) := by decide +kernel
theorem dX10_orders_5 : decode cX10_orders 5 = .ok (.aload_n 0, 1) := by decide +kernel
theorem dX10_orders_6 : decode cX10_orders 6 = .ok (.aload_n 0, 1) := by decide +kernel
theorem dX10_orders_7 : decode cX10_orders 7 = .ok (.getfield 52, 3) := by decide +kernel
theorem dX10_orders_10 : decode cX10_orders 10 = .ok (.iconst 0, 1) := by decide +kernel
theorem dX10_orders_11 : decode cX10_orders 11 = .ok (.invokevirtual 190, 3) := by decide +kernel
theorem dX10_orders_14 : decode cX10_orders 14 = .ok (.putfield 100, 3) := by decide +kernel
theorem dX10_orders_17 : decode cX10_orders 17 = .ok (.aload_n 0, 1) := by decide +kernel
theorem dX10_orders_18 : decode cX10_orders 18 = .ok (.getfield 43, 3) := by decide +kernel
theorem dX10_orders_21 : decode cX10_orders 21 = .ok (.iconst 0, 1) := by decide +kernel
theorem dX10_orders_22 : decode cX10_orders 22 = .ok (.putfield 177, 3) := by decide +kernel
theorem dX10_orders_25 : decode cX10_orders 25 = .ok (.aload_n 0, 1) := by decide +kernel
theorem dX10_orders_26 : decode cX10_orders 26 = .ok (.getfield 100, 3) := by decide +kernel
theorem dX10_orders_29 : decode cX10_orders 29 = .ok (.iconst (-1), 1) := by decide +kernel
theorem dX10_orders_30 : decode cX10_orders 30 = .ok (.if_icmp .eq 10, 3) := by decide +kernel
theorem dX10_orders_33 : decode cX10_orders 33 = .ok (.aload_n 0, 1) := by decide +kernel
theorem dX10_orders_34 : decode cX10_orders 34 = .ok (.bipush (-6), 2) := by decide +kernel
theorem dX10_orders_36 : decode cX10_orders 36 = .ok (.invokevirtual 113, 3) := by decide +kernel
theorem dX10_orders_39 : decode cX10_orders 39 = .ok (.ireturn, 1) := by decide +kernel
theorem dX10_orders_40 : decode cX10_orders 40 = .ok (.aload_n 0, 1) := by decide +kernel
theorem dX10_orders_41 : decode cX10_orders 41 = .ok (.getfield 16, 3) := by decide +kernel
theorem dX10_orders_44 : decode cX10_orders 44 = .ok (.aload_n 0, 1) := by decide +kernel
theorem dX10_orders_45 : decode cX10_orders 45 = .ok (.getfield 12, 3) := by decide +kernel
theorem dX10_orders_48 : decode cX10_orders 48 = .ok (.invokevirtual 208, 3) := by decide +kernel
theorem dX10_orders_51 : decode cX10_orders 51 = .ok (.aload_n 0, 1) := by decide +kernel
theorem dX10_orders_52 : decode cX10_orders 52 = .ok (.getfield 37, 3) := by decide +kernel
theorem dX10_orders_55 : decode cX10_orders 55 = .ok (.aload_n 0, 1) := by decide +kernel
theorem dX10_orders_56 : decode cX10_orders 56 = .ok (.getfield 33, 3) := by decide +kernel
theorem dX10_orders_59 : decode cX10_orders 59 = .ok (.invokevirtual 212, 3) := by decide +kernel
theorem dX10_orders_62 : decode cX10_orders 62 = .ok (.aload_n 0, 1) := by decide +kernel
theorem dX10_orders_63 : decode cX10_orders 63 = .ok (.aload_n 0, 1) := by decide +kernel
theorem dX10_orders_64 : decode cX10_orders 64 = .ok (.getfield 77, 3) := by decide +kernel
theorem dX10_orders_67 : decode cX10_orders 67 = .ok (.aload_n 0, 1) := by decide +kernel
theorem dX10_orders_68 : decode cX10_orders 68 = .ok (.getfield 52, 3) := by decide +kernel
theorem dX10_orders_71 : decode cX10_orders 71 = .ok (.getfield 198, 3) := by decide +kernel
theorem dX10_orders_74 : decode cX10_orders 74 = .ok (.aload_n 0, 1) := by decide +kernel
theorem dX10_orders_75 : decode cX10_orders 75 = .ok (.getfield 12, 3) := by decide +kernel
theorem dX10_orders_78 : decode cX10_orders 78 = .ok (.aload_n 0, 1) := by decide +kernel
theorem dX10_orders_79 : decode cX10_orders 79 = .ok (.getfield 33, 3) := by decide +kernel
theorem dX10_orders_82 : decode cX10_orders 82 = .ok (.invokevirtual 215, 3) := by decide +kernel
theorem dX10_orders_85 : decode cX10_orders 85 = .ok (.putfield 103, 3) := by decide +kernel
theorem dX10_orders_88 : decode cX10_orders 88 = .ok (.aload_n 0, 1) := by decide +kernel
theorem dX10_orders_89 : decode cX10_orders 89 = .ok (.getfield 103, 3) := by decide +kernel
theorem dX10_orders_92 : decode cX10_orders 92 = .ok (.iconst (-1), 1) := by decide +kernel
theorem dX10_orders_93 : decode cX10_orders 93 = .ok (.if_icmp .eq 32, 3) := by decide +kernel
theorem dX10_orders_96 : decode cX10_orders 96 = .ok (.aload_n 0, 1) := by decide +kernel
theorem dX10_orders_97 : decode cX10_orders 97 = .ok (.getfield 12, 3) := by decide +kernel
theorem dX10_orders_100 : decode cX10_orders 100 = .ok (.aload_n 0, 1) := by decide +kernel
theorem dX10_orders_101 : decode cX10_orders 101 = .ok (.getfield 16, 3) := by decide +kernel
theorem dX10_orders_104 : decode cX10_orders 104 = .ok (.invokevirtual 208, 3) := by decide +kernel
theorem dX10_orders_107 : decode cX10_orders 107 = .ok (.aload_n 0, 1) := by decide +kernel
theorem dX10_orders_108 : decode cX10_orders 108 = .ok (.getfield 33, 3) := by decide +kernel
theorem dX10_orders_111 : decode cX10_orders 111 = .ok (.aload_n 0, 1) := by decide +kernel
theorem dX10_orders_112 : decode cX10_orders 112 = .ok (.getfield 37, 3) := by decide +kernel
theorem dX10_orders_115 : decode cX10_orders 115 = .ok (.invokevirtual 212, 3) := by decide +kernel
theorem dX10_orders_118 : decode cX10_orders 118 = .ok (.aload_n 0, 1) := by decide +kernel
theorem dX10_orders_119 : decode cX10_orders 119 = .ok (.bipush (-3), 2) := by decide +kernel
theorem dX10_orders_121 : decode cX10_orders 121 = .ok (.invokevirtual 113, 3) := by decide +kernel
theorem dX10_orders_124 : decode cX10_orders 124 = .ok (.ireturn, 1) := by decide +kernel
theorem dX10_orders_125 : decode cX10_orders 125 = .ok (.aload_n 0, 1) := by decide +kernel
theorem dX10_orders_126 : decode cX10_orders 126 = .ok (.aload_n 0, 1) := by decide +kernel
theorem dX10_orders_127 : decode cX10_orders 127 = .ok (.getfield 77, 3) := by decide +kernel
theorem dX10_orders_130 : decode cX10_orders 130 = .ok (.getfield 219, 3) := by decide +kernel
theorem dX10_orders_133 : decode cX10_orders 133 = .ok (.invokevirtual 127, 3) := by decide +kernel
theorem dX10_orders_136 : decode cX10_orders 136 = .ok (.ireturn, 1) := by decide +kernel
theorem dX10_fault_0 : decode cX10_fault 0 = .ok (.aload_n 0, 1) := by decide +kernel
theorem dX10_fault_1 : decode cX10_fault 1 = .ok (.getfield 100, 3) := by decide +kernel
theorem dX10_fault_4 : decode cX10_fault 4 = .ok (.ireturn, 1) := by decide +kernel
theorem dX10_stopped_0 : decode cX10_stopped 0 = .ok (.aload_n 0, 1) := by decide +kernel
theorem dX10_stopped_1 : decode cX10_stopped 1 = .ok (.getfield 103, 3) := by decide +kernel
theorem dX10_stopped_4 : decode cX10_stopped 4 = .ok (.ireturn, 1) := by decide +kernel
theorem dX10_force_0 : decode cX10_force 0 = .ok (.iload_n 1, 1) := by decide +kernel
theorem dX10_force_1 : decode cX10_force 1 = .ok (.iconst (-1), 1) := by decide +kernel
theorem dX10_force_2 : decode cX10_force 2 = .ok (.if_icmp .eq 21, 3) := by decide +kernel
theorem dX10_force_5 : decode cX10_force 5 = .ok (.aload_n 0, 1) := by decide +kernel
theorem dX10_force_6 : decode cX10_force 6 = .ok (.getfield 12, 3) := by decide +kernel
theorem dX10_force_9 : decode cX10_force 9 = .ok (.iload_n 1, 1) := by decide +kernel
theorem dX10_force_10 : decode cX10_force 10 = .ok (.invokevirtual 159, 3) := by decide +kernel
theorem dX10_force_13 : decode cX10_force 13 = .ok (.ifnonnull 10, 3) := by decide +kernel
theorem dX10_force_16 : decode cX10_force 16 = .ok (.aload_n 0, 1) := by decide +kernel
theorem dX10_force_17 : decode cX10_force 17 = .ok (.bipush (-2), 2) := by decide +kernel
theorem dX10_force_19 : decode cX10_force 19 = .ok (.invokevirtual 113, 3) := by decide +kernel
theorem dX10_force_22 : decode cX10_force 22 = .ok (.ireturn, 1) := by decide +kernel
theorem dX10_force_23 : decode cX10_force 23 = .ok (.aload_n 0, 1) := by decide +kernel
theorem dX10_force_24 : decode cX10_force 24 = .ok (.getfield 12, 3) := by decide +kernel
theorem dX10_force_27 : decode cX10_force 27 = .ok (.getfield 156, 3) := by decide +kernel
theorem dX10_force_30 : decode cX10_force 30 = .ok (.istore_n 2, 1) := by decide +kernel
theorem dX10_force_31 : decode cX10_force 31 = .ok (.aload_n 0, 1) := by decide +kernel
theorem dX10_force_32 : decode cX10_force 32 = .ok (.getfield 12, 3) := by decide +kernel
theorem dX10_force_35 : decode cX10_force 35 = .ok (.iload_n 1, 1) := by decide +kernel
theorem dX10_force_36 : decode cX10_force 36 = .ok (.putfield 156, 3) := by decide +kernel
theorem dX10_force_39 : decode cX10_force 39 = .ok (.aload_n 0, 1) := by decide +kernel
theorem dX10_force_40 : decode cX10_force 40 = .ok (.iload_n 2, 1) := by decide +kernel
theorem dX10_force_41 : decode cX10_force 41 = .ok (.invokevirtual 127, 3) := by decide +kernel
theorem dX10_force_44 : decode cX10_force 44 = .ok (.ireturn, 1) := by decide +kernel
theorem dX10_pin_0 : decode cX10_pin 0 = .ok (.aload_n 0, 1) := by decide +kernel
theorem dX10_pin_1 : decode cX10_pin 1 = .ok (.aload_n 0, 1) := by decide +kernel
theorem dX10_pin_2 : decode cX10_pin 2 = .ok (.getfield 68, 3) := by decide +kernel
theorem dX10_pin_5 : decode cX10_pin 5 = .ok (.aload_n 0, 1) := by decide +kernel
theorem dX10_pin_6 : decode cX10_pin 6 = .ok (.getfield 12, 3) := by decide +kernel
theorem dX10_pin_9 : decode cX10_pin 9 = .ok (.aload_n 0, 1) := by decide +kernel
theorem dX10_pin_10 : decode cX10_pin 10 = .ok (.getfield 33, 3) := by decide +kernel
theorem dX10_pin_13 : decode cX10_pin 13 = .ok (.iconst 0, 1) := by decide +kernel
theorem dX10_pin_14 : decode cX10_pin 14 = .ok (.iload_n 1, 1) := by decide +kernel
theorem dX10_pin_15 : decode cX10_pin 15 = .ok (.iload_n 2, 1) := by decide +kernel
theorem dX10_pin_16 : decode cX10_pin 16 = .ok (.invokevirtual 222, 3) := by decide +kernel
theorem dX10_pin_19 : decode cX10_pin 19 = .ok (.invokevirtual 226, 3) := by decide +kernel
theorem dX10_pin_22 : decode cX10_pin 22 = .ok (.ireturn, 1) := by decide +kernel
theorem dX10_shift_0 : decode cX10_shift 0 = .ok (.aload_n 0, 1) := by decide +kernel
theorem dX10_shift_1 : decode cX10_shift 1 = .ok (.aload_n 0, 1) := by decide +kernel
theorem dX10_shift_2 : decode cX10_shift 2 = .ok (.getfield 68, 3) := by decide +kernel
theorem dX10_shift_5 : decode cX10_shift 5 = .ok (.aload_n 0, 1) := by decide +kernel
theorem dX10_shift_6 : decode cX10_shift 6 = .ok (.getfield 12, 3) := by decide +kernel
theorem dX10_shift_9 : decode cX10_shift 9 = .ok (.aload_n 0, 1) := by decide +kernel
theorem dX10_shift_10 : decode cX10_shift 10 = .ok (.getfield 33, 3) := by decide +kernel
theorem dX10_shift_13 : decode cX10_shift 13 = .ok (.iconst 1, 1) := by decide +kernel
theorem dX10_shift_14 : decode cX10_shift 14 = .ok (.iload_n 1, 1) := by decide +kernel
theorem dX10_shift_15 : decode cX10_shift 15 = .ok (.iload_n 2, 1) := by decide +kernel
theorem dX10_shift_16 : decode cX10_shift 16 = .ok (.invokevirtual 222, 3) := by decide +kernel
theorem dX10_shift_19 : decode cX10_shift 19 = .ok (.invokevirtual 226, 3) := by decide +kernel
theorem dX10_shift_22 : decode cX10_shift 22 = .ok (.ireturn, 1) := by decide +kernel
theorem dX10_stop_0 : decode cX10_stop 0 = .ok (.aload_n 0, 1) := by decide +kernel
theorem dX10_stop_1 : decode cX10_stop 1 = .ok (.aload_n 0, 1) := by decide +kernel
theorem dX10_stop_2 : decode cX10_stop 2 = .ok (.getfield 68, 3) := by decide +kernel
theorem dX10_stop_5 : decode cX10_stop 5 = .ok (.aload_n 0, 1) := by decide +kernel
theorem dX10_stop_6 : decode cX10_stop 6 = .ok (.getfield 12, 3) := by decide +kernel
theorem dX10_stop_9 : decode cX10_stop 9 = .ok (.aload_n 0, 1) := by decide +kernel
theorem dX10_stop_10 : decode cX10_stop 10 = .ok (.getfield 33, 3) := by decide +kernel
theorem dX10_stop_13 : decode cX10_stop 13 = .ok (.iconst 2, 1) := by decide +kernel
theorem dX10_stop_14 : decode cX10_stop 14 = .ok (.iload_n 1, 1) := by decide +kernel
theorem dX10_stop_15 : decode cX10_stop 15 = .ok (.iconst 0, 1) := by decide +kernel
theorem dX10_stop_16 : decode cX10_stop 16 = .ok (.invokevirtual 222, 3) := by decide +kernel
theorem dX10_stop_19 : decode cX10_stop 19 = .ok (.invokevirtual 226, 3) := by decide +kernel
theorem dX10_stop_22 : decode cX10_stop 22 = .ok (.ireturn, 1) := by decide +kernel
theorem dX10_pass_0 : decode cX10_pass 0 = .ok (.aload_n 0, 1) := by decide +kernel
theorem dX10_pass_1 : decode cX10_pass 1 = .ok (.aload_n 0, 1) := by decide +kernel
theorem dX10_pass_2 : decode cX10_pass 2 = .ok (.getfield 68, 3) := by decide +kernel
theorem dX10_pass_5 : decode cX10_pass 5 = .ok (.aload_n 0, 1) := by decide +kernel
theorem dX10_pass_6 : decode cX10_pass 6 = .ok (.getfield 12, 3) := by decide +kernel
theorem dX10_pass_9 : decode cX10_pass 9 = .ok (.aload_n 0, 1) := by decide +kernel
theorem dX10_pass_10 : decode cX10_pass 10 = .ok (.getfield 33, 3) := by decide +kernel
theorem dX10_pass_13 : decode cX10_pass 13 = .ok (.iconst 3, 1) := by decide +kernel
theorem dX10_pass_14 : decode cX10_pass 14 = .ok (.iconst 0, 1) := by decide +kernel
theorem dX10_pass_15 : decode cX10_pass 15 = .ok (.iconst 0, 1) := by decide +kernel
theorem dX10_pass_16 : decode cX10_pass 16 = .ok (.invokevirtual 222, 3) := by decide +kernel
theorem dX10_pass_19 : decode cX10_pass 19 = .ok (.invokevirtual 226, 3) := by decide +kernel
theorem dX10_pass_22 : decode cX10_pass 22 = .ok (.ireturn, 1) := by decide +kernel
theorem dX10_undo_0 : decode cX10_undo 0 = .ok (.aload_n 0, 1) := by decide +kernel
theorem dX10_undo_1 : decode cX10_undo 1 = .ok (.getfield 33, 3) := by decide +kernel
theorem dX10_undo_4 : decode cX10_undo 4 = .ok (.getfield 229, 3) := by decide +kernel
theorem dX10_undo_7 : decode cX10_undo 7 = .ok (.ifCond .ne 10, 3) := by decide +kernel
theorem dX10_undo_10 : decode cX10_undo 10 = .ok (.aload_n 0, 1) := by decide +kernel
theorem dX10_undo_11 : decode cX10_undo 11 = .ok (.bipush (-3), 2) := by decide +kernel
theorem dX10_undo_13 : decode cX10_undo 13 = .ok (.invokevirtual 113, 3) := by decide +kernel
theorem dX10_undo_16 : decode cX10_undo 16 = .ok (.ireturn, 1) := by decide +kernel
theorem dX10_undo_17 : decode cX10_undo 17 = .ok (.aload_n 0, 1) := by decide +kernel
theorem dX10_undo_18 : decode cX10_undo 18 = .ok (.aload_n 0, 1) := by decide +kernel
theorem dX10_undo_19 : decode cX10_undo 19 = .ok (.getfield 33, 3) := by decide +kernel
theorem dX10_undo_22 : decode cX10_undo 22 = .ok (.aload_n 0, 1) := by decide +kernel
theorem dX10_undo_23 : decode cX10_undo 23 = .ok (.getfield 12, 3) := by decide +kernel
theorem dX10_undo_26 : decode cX10_undo 26 = .ok (.invokevirtual 232, 3) := by decide +kernel
theorem dX10_undo_29 : decode cX10_undo 29 = .ok (.invokevirtual 127, 3) := by decide +kernel
theorem dX10_undo_32 : decode cX10_undo 32 = .ok (.ireturn, 1) := by decide +kernel
theorem dX10_loud_0 : decode cX10_loud 0 = .ok (.iload_n 1, 1) := by decide +kernel
theorem dX10_loud_1 : decode cX10_loud 1 = .ok (.ifCond .lt 10, 3) := by decide +kernel
theorem dX10_loud_4 : decode cX10_loud 4 = .ok (.iload_n 1, 1) := by decide +kernel
theorem dX10_loud_5 : decode cX10_loud 5 = .ok (.sipush 30000, 3) := by decide +kernel
theorem dX10_loud_8 : decode cX10_loud 8 = .ok (.if_icmp .le 5, 3) := by decide +kernel
theorem dX10_loud_11 : decode cX10_loud 11 = .ok (.iconst (-1), 1) := by decide +kernel
theorem dX10_loud_12 : decode cX10_loud 12 = .ok (.ireturn, 1) := by decide +kernel
theorem dX10_loud_13 : decode cX10_loud 13 = .ok (.aload_n 0, 1) := by decide +kernel
theorem dX10_loud_14 : decode cX10_loud 14 = .ok (.getfield 59, 3) := by decide +kernel
theorem dX10_loud_17 : decode cX10_loud 17 = .ok (.aload_n 0, 1) := by decide +kernel
theorem dX10_loud_18 : decode cX10_loud 18 = .ok (.getfield 12, 3) := by decide +kernel
theorem dX10_loud_21 : decode cX10_loud 21 = .ok (.iload_n 1, 1) := by decide +kernel
theorem dX10_loud_22 : decode cX10_loud 22 = .ok (.invokevirtual 236, 3) := by decide +kernel
theorem dX10_loud_25 : decode cX10_loud 25 = .ok (.ireturn, 1) := by decide +kernel
theorem dX10_round_0 : decode cX10_round 0 = .ok (.aload_n 0, 1) := by decide +kernel
theorem dX10_round_1 : decode cX10_round 1 = .ok (.getfield 12, 3) := by decide +kernel
theorem dX10_round_4 : decode cX10_round 4 = .ok (.iconst 0, 1) := by decide +kernel
theorem dX10_round_5 : decode cX10_round 5 = .ok (.bipush 6, 2) := by decide +kernel
theorem dX10_round_7 : decode cX10_round 7 = .ok (.invokevirtual 240, 3) := by decide +kernel
theorem dX10_round_10 : decode cX10_round 10 = .ok (.ireturn, 1) := by decide +kernel
theorem dX10_when_0 : decode cX10_when 0 = .ok (.aload_n 0, 1) := by decide +kernel
theorem dX10_when_1 : decode cX10_when 1 = .ok (.getfield 12, 3) := by decide +kernel
theorem dX10_when_4 : decode cX10_when 4 = .ok (.iload_n 1, 1) := by decide +kernel
theorem dX10_when_5 : decode cX10_when 5 = .ok (.invokevirtual 244, 3) := by decide +kernel
theorem dX10_when_8 : decode cX10_when 8 = .ok (.ifCond .ne 5, 3) := by decide +kernel
theorem dX10_when_11 : decode cX10_when 11 = .ok (.iconst (-1), 1) := by decide +kernel
theorem dX10_when_12 : decode cX10_when 12 = .ok (.ireturn, 1) := by decide +kernel
theorem dX10_when_13 : decode cX10_when 13 = .ok (.aload_n 0, 1) := by decide +kernel
theorem dX10_when_14 : decode cX10_when 14 = .ok (.getfield 84, 3) := by decide +kernel
theorem dX10_when_17 : decode cX10_when 17 = .ok (.aload_n 0, 1) := by decide +kernel
theorem dX10_when_18 : decode cX10_when 18 = .ok (.getfield 12, 3) := by decide +kernel
theorem dX10_when_21 : decode cX10_when 21 = .ok (.invokevirtual 247, 3) := by decide +kernel
theorem dX10_when_24 : decode cX10_when 24 = .ok (.aload_n 0, 1) := by decide +kernel
theorem dX10_when_25 : decode cX10_when 25 = .ok (.getfield 84, 3) := by decide +kernel
theorem dX10_when_28 : decode cX10_when 28 = .ok (.iload_n 1, 1) := by decide +kernel
theorem dX10_when_29 : decode cX10_when 29 = .ok (.invokevirtual 250, 3) := by decide +kernel
theorem dX10_when_32 : decode cX10_when 32 = .ok (.ireturn, 1) := by decide +kernel
theorem dX10_often_0 : decode cX10_often 0 = .ok (.aload_n 0, 1) := by decide +kernel
theorem dX10_often_1 : decode cX10_often 1 = .ok (.getfield 12, 3) := by decide +kernel
theorem dX10_often_4 : decode cX10_often 4 = .ok (.iload_n 1, 1) := by decide +kernel
theorem dX10_often_5 : decode cX10_often 5 = .ok (.invokevirtual 244, 3) := by decide +kernel
theorem dX10_often_8 : decode cX10_often 8 = .ok (.ifCond .ne 5, 3) := by decide +kernel
theorem dX10_often_11 : decode cX10_often 11 = .ok (.iconst (-1), 1) := by decide +kernel
theorem dX10_often_12 : decode cX10_often 12 = .ok (.ireturn, 1) := by decide +kernel
theorem dX10_often_13 : decode cX10_often 13 = .ok (.aload_n 0, 1) := by decide +kernel
theorem dX10_often_14 : decode cX10_often 14 = .ok (.getfield 84, 3) := by decide +kernel
theorem dX10_often_17 : decode cX10_often 17 = .ok (.aload_n 0, 1) := by decide +kernel
theorem dX10_often_18 : decode cX10_often 18 = .ok (.getfield 12, 3) := by decide +kernel
theorem dX10_often_21 : decode cX10_often 21 = .ok (.invokevirtual 247, 3) := by decide +kernel
theorem dX10_often_24 : decode cX10_often 24 = .ok (.aload_n 0, 1) := by decide +kernel
theorem dX10_often_25 : decode cX10_often 25 = .ok (.getfield 84, 3) := by decide +kernel
theorem dX10_often_28 : decode cX10_often 28 = .ok (.iload_n 1, 1) := by decide +kernel
theorem dX10_often_29 : decode cX10_often 29 = .ok (.iload_n 1, 1) := by decide +kernel
theorem dX10_often_30 : decode cX10_often 30 = .ok (.invokevirtual 253, 3) := by decide +kernel
theorem dX10_often_33 : decode cX10_often 33 = .ok (.ireturn, 1) := by decide +kernel
theorem dX10_alone_0 : decode cX10_alone 0 = .ok (.aload_n 0, 1) := by decide +kernel
theorem dX10_alone_1 : decode cX10_alone 1 = .ok (.getfield 12, 3) := by decide +kernel
theorem dX10_alone_4 : decode cX10_alone 4 = .ok (.iload_n 1, 1) := by decide +kernel
theorem dX10_alone_5 : decode cX10_alone 5 = .ok (.invokevirtual 130, 3) := by decide +kernel
theorem dX10_alone_8 : decode cX10_alone 8 = .ok (.ifCond .ne 5, 3) := by decide +kernel
theorem dX10_alone_11 : decode cX10_alone 11 = .ok (.iconst (-1), 1) := by decide +kernel
theorem dX10_alone_12 : decode cX10_alone 12 = .ok (.ireturn, 1) := by decide +kernel
theorem dX10_alone_13 : decode cX10_alone 13 = .ok (.aload_n 0, 1) := by decide +kernel
theorem dX10_alone_14 : decode cX10_alone 14 = .ok (.getfield 84, 3) := by decide +kernel
theorem dX10_alone_17 : decode cX10_alone 17 = .ok (.aload_n 0, 1) := by decide +kernel
theorem dX10_alone_18 : decode cX10_alone 18 = .ok (.getfield 12, 3) := by decide +kernel
theorem dX10_alone_21 : decode cX10_alone 21 = .ok (.invokevirtual 247, 3) := by decide +kernel
theorem dX10_alone_24 : decode cX10_alone 24 = .ok (.aload_n 0, 1) := by decide +kernel
theorem dX10_alone_25 : decode cX10_alone 25 = .ok (.getfield 84, 3) := by decide +kernel
theorem dX10_alone_28 : decode cX10_alone 28 = .ok (.bipush 63, 2) := by decide +kernel
theorem dX10_alone_30 : decode cX10_alone 30 = .ok (.iconst 1, 1) := by decide +kernel
theorem dX10_alone_31 : decode cX10_alone 31 = .ok (.iload_n 1, 1) := by decide +kernel
theorem dX10_alone_32 : decode cX10_alone 32 = .ok (.ishl, 1) := by decide +kernel
theorem dX10_alone_33 : decode cX10_alone 33 = .ok (.invokevirtual 253, 3) := by decide +kernel
theorem dX10_alone_36 : decode cX10_alone 36 = .ok (.ireturn, 1) := by decide +kernel
theorem dX10_loudest_0 : decode cX10_loudest 0 = .ok (.iload_n 1, 1) := by decide +kernel
theorem dX10_loudest_1 : decode cX10_loudest 1 = .ok (.ifCond .lt 8, 3) := by decide +kernel
theorem dX10_loudest_4 : decode cX10_loudest 4 = .ok (.iload_n 1, 1) := by decide +kernel
theorem dX10_loudest_5 : decode cX10_loudest 5 = .ok (.iconst 2, 1) := by decide +kernel
theorem dX10_loudest_6 : decode cX10_loudest 6 = .ok (.if_icmp .le 5, 3) := by decide +kernel
theorem dX10_loudest_9 : decode cX10_loudest 9 = .ok (.iconst (-1), 1) := by decide +kernel
theorem dX10_loudest_10 : decode cX10_loudest 10 = .ok (.ireturn, 1) := by decide +kernel
theorem dX10_loudest_11 : decode cX10_loudest 11 = .ok (.aload_n 0, 1) := by decide +kernel
theorem dX10_loudest_12 : decode cX10_loudest 12 = .ok (.getfield 84, 3) := by decide +kernel
theorem dX10_loudest_15 : decode cX10_loudest 15 = .ok (.aload_n 0, 1) := by decide +kernel
theorem dX10_loudest_16 : decode cX10_loudest 16 = .ok (.getfield 12, 3) := by decide +kernel
theorem dX10_loudest_19 : decode cX10_loudest 19 = .ok (.aload_n 0, 1) := by decide +kernel
theorem dX10_loudest_20 : decode cX10_loudest 20 = .ok (.getfield 12, 3) := by decide +kernel
theorem dX10_loudest_23 : decode cX10_loudest 23 = .ok (.aload_n 0, 1) := by decide +kernel
theorem dX10_loudest_24 : decode cX10_loudest 24 = .ok (.getfield 12, 3) := by decide +kernel
theorem dX10_loudest_27 : decode cX10_loudest 27 = .ok (.getfield 156, 3) := by decide +kernel
theorem dX10_loudest_30 : decode cX10_loudest 30 = .ok (.invokevirtual 159, 3) := by decide +kernel
theorem dX10_loudest_33 : decode cX10_loudest 33 = .ok (.invokevirtual 256, 3) := by decide +kernel
theorem dX10_loudest_36 : decode cX10_loudest 36 = .ok (.aload_n 0, 1) := by decide +kernel
theorem dX10_loudest_37 : decode cX10_loudest 37 = .ok (.getfield 84, 3) := by decide +kernel
theorem dX10_loudest_40 : decode cX10_loudest 40 = .ok (.iload_n 1, 1) := by decide +kernel
theorem dX10_loudest_41 : decode cX10_loudest 41 = .ok (.invokevirtual 260, 3) := by decide +kernel
theorem dX10_loudest_44 : decode cX10_loudest 44 = .ok (.ireturn, 1) := by decide +kernel
theorem dX10_quiet_0 : decode cX10_quiet 0 = .ok (.iload_n 1, 1) := by decide +kernel
theorem dX10_quiet_1 : decode cX10_quiet 1 = .ok (.ifCond .lt 8, 3) := by decide +kernel
theorem dX10_quiet_4 : decode cX10_quiet 4 = .ok (.iload_n 1, 1) := by decide +kernel
theorem dX10_quiet_5 : decode cX10_quiet 5 = .ok (.iconst 1, 1) := by decide +kernel
theorem dX10_quiet_6 : decode cX10_quiet 6 = .ok (.if_icmp .le 5, 3) := by decide +kernel
theorem dX10_quiet_9 : decode cX10_quiet 9 = .ok (.iconst (-1), 1) := by decide +kernel
theorem dX10_quiet_10 : decode cX10_quiet 10 = .ok (.ireturn, 1) := by decide +kernel
theorem dX10_quiet_11 : decode cX10_quiet 11 = .ok (.aload_n 0, 1) := by decide +kernel
theorem dX10_quiet_12 : decode cX10_quiet 12 = .ok (.getfield 84, 3) := by decide +kernel
theorem dX10_quiet_15 : decode cX10_quiet 15 = .ok (.aload_n 0, 1) := by decide +kernel
theorem dX10_quiet_16 : decode cX10_quiet 16 = .ok (.getfield 12, 3) := by decide +kernel
theorem dX10_quiet_19 : decode cX10_quiet 19 = .ok (.invokevirtual 247, 3) := by decide +kernel
theorem dX10_quiet_22 : decode cX10_quiet 22 = .ok (.aload_n 0, 1) := by decide +kernel
theorem dX10_quiet_23 : decode cX10_quiet 23 = .ok (.getfield 84, 3) := by decide +kernel
theorem dX10_quiet_26 : decode cX10_quiet 26 = .ok (.iload_n 1, 1) := by decide +kernel
theorem dX10_quiet_27 : decode cX10_quiet 27 = .ok (.invokevirtual 263, 3) := by decide +kernel
theorem dX10_quiet_30 : decode cX10_quiet 30 = .ok (.ireturn, 1) := by decide +kernel
theorem dX10_most_0 : decode cX10_most 0 = .ok (.aload_n 0, 1) := by decide +kernel
theorem dX10_most_1 : decode cX10_most 1 = .ok (.getfield 12, 3) := by decide +kernel
theorem dX10_most_4 : decode cX10_most 4 = .ok (.iload_n 1, 1) := by decide +kernel
theorem dX10_most_5 : decode cX10_most 5 = .ok (.invokevirtual 130, 3) := by decide +kernel
theorem dX10_most_8 : decode cX10_most 8 = .ok (.ifCond .eq 12, 3) := by decide +kernel
theorem dX10_most_11 : decode cX10_most 11 = .ok (.iload_n 2, 1) := by decide +kernel
theorem dX10_most_12 : decode cX10_most 12 = .ok (.ifCond .lt 8, 3) := by decide +kernel
theorem dX10_most_15 : decode cX10_most 15 = .ok (.iload_n 2, 1) := by decide +kernel
theorem dX10_most_16 : decode cX10_most 16 = .ok (.iconst 1, 1) := by decide +kernel
theorem dX10_most_17 : decode cX10_most 17 = .ok (.if_icmp .le 5, 3) := by decide +kernel
theorem dX10_most_20 : decode cX10_most 20 = .ok (.iconst (-1), 1) := by decide +kernel
theorem dX10_most_21 : decode cX10_most 21 = .ok (.ireturn, 1) := by decide +kernel
theorem dX10_most_22 : decode cX10_most 22 = .ok (.aload_n 0, 1) := by decide +kernel
theorem dX10_most_23 : decode cX10_most 23 = .ok (.getfield 84, 3) := by decide +kernel
theorem dX10_most_26 : decode cX10_most 26 = .ok (.aload_n 0, 1) := by decide +kernel
theorem dX10_most_27 : decode cX10_most 27 = .ok (.getfield 12, 3) := by decide +kernel
theorem dX10_most_30 : decode cX10_most 30 = .ok (.invokevirtual 247, 3) := by decide +kernel
theorem dX10_most_33 : decode cX10_most 33 = .ok (.aload_n 0, 1) := by decide +kernel
theorem dX10_most_34 : decode cX10_most 34 = .ok (.getfield 84, 3) := by decide +kernel
theorem dX10_most_37 : decode cX10_most 37 = .ok (.aload_n 0, 1) := by decide +kernel
theorem dX10_most_38 : decode cX10_most 38 = .ok (.getfield 12, 3) := by decide +kernel
theorem dX10_most_41 : decode cX10_most 41 = .ok (.iload_n 1, 1) := by decide +kernel
theorem dX10_most_42 : decode cX10_most 42 = .ok (.iconst 1, 1) := by decide +kernel
theorem dX10_most_43 : decode cX10_most 43 = .ok (.iload_n 2, 1) := by decide +kernel
theorem dX10_most_44 : decode cX10_most 44 = .ok (.invokevirtual 266, 3) := by decide +kernel
theorem dX10_most_47 : decode cX10_most 47 = .ok (.ireturn, 1) := by decide +kernel
theorem dX10_least_0 : decode cX10_least 0 = .ok (.aload_n 0, 1) := by decide +kernel
theorem dX10_least_1 : decode cX10_least 1 = .ok (.getfield 12, 3) := by decide +kernel
theorem dX10_least_4 : decode cX10_least 4 = .ok (.iload_n 1, 1) := by decide +kernel
theorem dX10_least_5 : decode cX10_least 5 = .ok (.invokevirtual 130, 3) := by decide +kernel
theorem dX10_least_8 : decode cX10_least 8 = .ok (.ifCond .eq 12, 3) := by decide +kernel
theorem dX10_least_11 : decode cX10_least 11 = .ok (.iload_n 2, 1) := by decide +kernel
theorem dX10_least_12 : decode cX10_least 12 = .ok (.ifCond .lt 8, 3) := by decide +kernel
theorem dX10_least_15 : decode cX10_least 15 = .ok (.iload_n 2, 1) := by decide +kernel
theorem dX10_least_16 : decode cX10_least 16 = .ok (.iconst 1, 1) := by decide +kernel
theorem dX10_least_17 : decode cX10_least 17 = .ok (.if_icmp .le 5, 3) := by decide +kernel
theorem dX10_least_20 : decode cX10_least 20 = .ok (.iconst (-1), 1) := by decide +kernel
theorem dX10_least_21 : decode cX10_least 21 = .ok (.ireturn, 1) := by decide +kernel
theorem dX10_least_22 : decode cX10_least 22 = .ok (.aload_n 0, 1) := by decide +kernel
theorem dX10_least_23 : decode cX10_least 23 = .ok (.getfield 84, 3) := by decide +kernel
theorem dX10_least_26 : decode cX10_least 26 = .ok (.aload_n 0, 1) := by decide +kernel
theorem dX10_least_27 : decode cX10_least 27 = .ok (.getfield 12, 3) := by decide +kernel
theorem dX10_least_30 : decode cX10_least 30 = .ok (.invokevirtual 247, 3) := by decide +kernel
theorem dX10_least_33 : decode cX10_least 33 = .ok (.aload_n 0, 1) := by decide +kernel
theorem dX10_least_34 : decode cX10_least 34 = .ok (.getfield 84, 3) := by decide +kernel
theorem dX10_least_37 : decode cX10_least 37 = .ok (.aload_n 0, 1) := by decide +kernel
theorem dX10_least_38 : decode cX10_least 38 = .ok (.getfield 12, 3) := by decide +kernel
theorem dX10_least_41 : decode cX10_least 41 = .ok (.iload_n 1, 1) := by decide +kernel
theorem dX10_least_42 : decode cX10_least 42 = .ok (.iconst 0, 1) := by decide +kernel
theorem dX10_least_43 : decode cX10_least 43 = .ok (.iload_n 2, 1) := by decide +kernel
theorem dX10_least_44 : decode cX10_least 44 = .ok (.invokevirtual 266, 3) := by decide +kernel
theorem dX10_least_47 : decode cX10_least 47 = .ok (.ireturn, 1) := by decide +kernel
theorem dX10_never_0 : decode cX10_never 0 = .ok (.iload_n 1, 1) := by decide +kernel
theorem dX10_never_1 : decode cX10_never 1 = .ok (.ifCond .lt 8, 3) := by decide +kernel
theorem dX10_never_4 : decode cX10_never 4 = .ok (.iload_n 1, 1) := by decide +kernel
theorem dX10_never_5 : decode cX10_never 5 = .ok (.iconst 1, 1) := by decide +kernel
theorem dX10_never_6 : decode cX10_never 6 = .ok (.if_icmp .le 5, 3) := by decide +kernel
theorem dX10_never_9 : decode cX10_never 9 = .ok (.iconst (-1), 1) := by decide +kernel
theorem dX10_never_10 : decode cX10_never 10 = .ok (.ireturn, 1) := by decide +kernel
theorem dX10_never_11 : decode cX10_never 11 = .ok (.aload_n 0, 1) := by decide +kernel
theorem dX10_never_12 : decode cX10_never 12 = .ok (.getfield 84, 3) := by decide +kernel
theorem dX10_never_15 : decode cX10_never 15 = .ok (.aload_n 0, 1) := by decide +kernel
theorem dX10_never_16 : decode cX10_never 16 = .ok (.getfield 12, 3) := by decide +kernel
theorem dX10_never_19 : decode cX10_never 19 = .ok (.invokevirtual 247, 3) := by decide +kernel
theorem dX10_never_22 : decode cX10_never 22 = .ok (.aload_n 0, 1) := by decide +kernel
theorem dX10_never_23 : decode cX10_never 23 = .ok (.getfield 84, 3) := by decide +kernel
theorem dX10_never_26 : decode cX10_never 26 = .ok (.aload_n 0, 1) := by decide +kernel
theorem dX10_never_27 : decode cX10_never 27 = .ok (.getfield 12, 3) := by decide +kernel
theorem dX10_never_30 : decode cX10_never 30 = .ok (.getfield 117, 3) := by decide +kernel
theorem dX10_never_33 : decode cX10_never 33 = .ok (.invokevirtual 270, 3) := by decide +kernel
theorem dX10_never_36 : decode cX10_never 36 = .ok (.istore_n 2, 1) := by decide +kernel
theorem dX10_never_37 : decode cX10_never 37 = .ok (.iload_n 2, 1) := by decide +kernel
theorem dX10_never_38 : decode cX10_never 38 = .ok (.ifCond .ne 5, 3) := by decide +kernel
theorem dX10_never_41 : decode cX10_never 41 = .ok (.iconst (-1), 1) := by decide +kernel
theorem dX10_never_42 : decode cX10_never 42 = .ok (.ireturn, 1) := by decide +kernel
theorem dX10_never_43 : decode cX10_never 43 = .ok (.iload_n 1, 1) := by decide +kernel
theorem dX10_never_44 : decode cX10_never 44 = .ok (.ifCond .ne 10, 3) := by decide +kernel
theorem dX10_never_47 : decode cX10_never 47 = .ok (.iload_n 2, 1) := by decide +kernel
theorem dX10_never_48 : decode cX10_never 48 = .ok (.invokestatic 273, 3) := by decide +kernel
theorem dX10_never_51 : decode cX10_never 51 = .ok (.goto 4, 3) := by decide +kernel
theorem dX10_never_54 : decode cX10_never 54 = .ok (.iload_n 2, 1) := by decide +kernel
theorem dX10_never_55 : decode cX10_never 55 = .ok (.ireturn, 1) := by decide +kernel
theorem dX10_add_0 : decode cX10_add 0 = .ok (.iload_n 1, 1) := by decide +kernel
theorem dX10_add_1 : decode cX10_add 1 = .ok (.ifCond .eq 35, 3) := by decide +kernel
theorem dX10_add_4 : decode cX10_add 4 = .ok (.aload_n 0, 1) := by decide +kernel
theorem dX10_add_5 : decode cX10_add 5 = .ok (.getfield 12, 3) := by decide +kernel
theorem dX10_add_8 : decode cX10_add 8 = .ok (.iload_n 1, 1) := by decide +kernel
theorem dX10_add_9 : decode cX10_add 9 = .ok (.invokevirtual 244, 3) := by decide +kernel
theorem dX10_add_12 : decode cX10_add 12 = .ok (.ifCond .eq 24, 3) := by decide +kernel
theorem dX10_add_15 : decode cX10_add 15 = .ok (.iload_n 1, 1) := by decide +kernel
theorem dX10_add_16 : decode cX10_add 16 = .ok (.aload_n 0, 1) := by decide +kernel
theorem dX10_add_17 : decode cX10_add 17 = .ok (.getfield 12, 3) := by decide +kernel
theorem dX10_add_20 : decode cX10_add 20 = .ok (.getfield 278, 3) := by decide +kernel
theorem dX10_add_23 : decode cX10_add 23 = .ok (.iand, 1) := by decide +kernel
theorem dX10_add_24 : decode cX10_add 24 = .ok (.ifCond .ne 12, 3) := by decide +kernel
theorem dX10_add_27 : decode cX10_add 27 = .ok (.iload_n 2, 1) := by decide +kernel
theorem dX10_add_28 : decode cX10_add 28 = .ok (.ifCond .lt 8, 3) := by decide +kernel
theorem dX10_add_31 : decode cX10_add 31 = .ok (.iload_n 2, 1) := by decide +kernel
theorem dX10_add_32 : decode cX10_add 32 = .ok (.iconst 1, 1) := by decide +kernel
theorem dX10_add_33 : decode cX10_add 33 = .ok (.if_icmp .le 5, 3) := by decide +kernel
theorem dX10_add_36 : decode cX10_add 36 = .ok (.iconst (-1), 1) := by decide +kernel
theorem dX10_add_37 : decode cX10_add 37 = .ok (.ireturn, 1) := by decide +kernel
theorem dX10_add_38 : decode cX10_add 38 = .ok (.aload_n 0, 1) := by decide +kernel
theorem dX10_add_39 : decode cX10_add 39 = .ok (.getfield 84, 3) := by decide +kernel
theorem dX10_add_42 : decode cX10_add 42 = .ok (.aload_n 0, 1) := by decide +kernel
theorem dX10_add_43 : decode cX10_add 43 = .ok (.getfield 12, 3) := by decide +kernel
theorem dX10_add_46 : decode cX10_add 46 = .ok (.invokevirtual 247, 3) := by decide +kernel
theorem dX10_add_49 : decode cX10_add 49 = .ok (.aload_n 0, 1) := by decide +kernel
theorem dX10_add_50 : decode cX10_add 50 = .ok (.getfield 84, 3) := by decide +kernel
theorem dX10_add_53 : decode cX10_add 53 = .ok (.aload_n 0, 1) := by decide +kernel
theorem dX10_add_54 : decode cX10_add 54 = .ok (.getfield 12, 3) := by decide +kernel
theorem dX10_add_57 : decode cX10_add 57 = .ok (.iload_n 1, 1) := by decide +kernel
theorem dX10_add_58 : decode cX10_add 58 = .ok (.iload_n 2, 1) := by decide +kernel
theorem dX10_add_59 : decode cX10_add 59 = .ok (.invokevirtual 281, 3) := by decide +kernel
theorem dX10_add_62 : decode cX10_add 62 = .ok (.ireturn, 1) := by decide +kernel
theorem dX10_tune_0 : decode cX10_tune 0 = .ok (.aload_n 0, 1) := by decide +kernel
theorem dX10_tune_1 : decode cX10_tune 1 = .ok (.getfield 84, 3) := by decide +kernel
theorem dX10_tune_4 : decode cX10_tune 4 = .ok (.aload_n 0, 1) := by decide +kernel
theorem dX10_tune_5 : decode cX10_tune 5 = .ok (.getfield 12, 3) := by decide +kernel
theorem dX10_tune_8 : decode cX10_tune 8 = .ok (.aload_n 0, 1) := by decide +kernel
theorem dX10_tune_9 : decode cX10_tune 9 = .ok (.getfield 12, 3) := by decide +kernel
theorem dX10_tune_12 : decode cX10_tune 12 = .ok (.aload_n 0, 1) := by decide +kernel
theorem dX10_tune_13 : decode cX10_tune 13 = .ok (.getfield 12, 3) := by decide +kernel
theorem dX10_tune_16 : decode cX10_tune 16 = .ok (.getfield 156, 3) := by decide +kernel
theorem dX10_tune_19 : decode cX10_tune 19 = .ok (.invokevirtual 159, 3) := by decide +kernel
theorem dX10_tune_22 : decode cX10_tune 22 = .ok (.invokevirtual 256, 3) := by decide +kernel
theorem dX10_tune_25 : decode cX10_tune 25 = .ok (.aload_n 0, 1) := by decide +kernel
theorem dX10_tune_26 : decode cX10_tune 26 = .ok (.getfield 84, 3) := by decide +kernel
theorem dX10_tune_29 : decode cX10_tune 29 = .ok (.invokevirtual 285, 3) := by decide +kernel
theorem dX10_tune_32 : decode cX10_tune 32 = .ok (.ireturn, 1) := by decide +kernel
theorem dX10_heard_0 : decode cX10_heard 0 = .ok (.iload_n 1, 1) := by decide +kernel
theorem dX10_heard_1 : decode cX10_heard 1 = .ok (.ifCond .lt 18, 3) := by decide +kernel
theorem dX10_heard_4 : decode cX10_heard 4 = .ok (.iload_n 1, 1) := by decide +kernel
theorem dX10_heard_5 : decode cX10_heard 5 = .ok (.bipush 100, 2) := by decide +kernel
theorem dX10_heard_7 : decode cX10_heard 7 = .ok (.if_icmp .ge 12, 3) := by decide +kernel
theorem dX10_heard_10 : decode cX10_heard 10 = .ok (.iload_n 2, 1) := by decide +kernel
theorem dX10_heard_11 : decode cX10_heard 11 = .ok (.ifCond .lt 8, 3) := by decide +kernel
theorem dX10_heard_14 : decode cX10_heard 14 = .ok (.iload_n 2, 1) := by decide +kernel
theorem dX10_heard_15 : decode cX10_heard 15 = .ok (.iconst 1, 1) := by decide +kernel
theorem dX10_heard_16 : decode cX10_heard 16 = .ok (.if_icmp .le 9, 3) := by decide +kernel
theorem dX10_heard_19 : decode cX10_heard 19 = .ok (.aload_n 0, 1) := by decide +kernel
theorem dX10_heard_20 : decode cX10_heard 20 = .ok (.iconst (-1), 1) := by decide +kernel
theorem dX10_heard_21 : decode cX10_heard 21 = .ok (.invokevirtual 113, 3) := by decide +kernel
theorem dX10_heard_24 : decode cX10_heard 24 = .ok (.ireturn, 1) := by decide +kernel
theorem dX10_heard_25 : decode cX10_heard 25 = .ok (.aload_n 0, 1) := by decide +kernel
theorem dX10_heard_26 : decode cX10_heard 26 = .ok (.getfield 12, 3) := by decide +kernel
theorem dX10_heard_29 : decode cX10_heard 29 = .ok (.getfield 289, 3) := by decide +kernel
theorem dX10_heard_32 : decode cX10_heard 32 = .ok (.istore_n 3, 1) := by decide +kernel
theorem dX10_heard_33 : decode cX10_heard 33 = .ok (.iload_n 3, 1) := by decide +kernel
theorem dX10_heard_34 : decode cX10_heard 34 = .ok (.bipush 6, 2) := by decide +kernel
theorem dX10_heard_36 : decode cX10_heard 36 = .ok (.if_icmp .lt 10, 3) := by decide +kernel
theorem dX10_heard_39 : decode cX10_heard 39 = .ok (.aload_n 0, 1) := by decide +kernel
theorem dX10_heard_40 : decode cX10_heard 40 = .ok (.bipush (-5), 2) := by decide +kernel
theorem dX10_heard_42 : decode cX10_heard 42 = .ok (.invokevirtual 113, 3) := by decide +kernel
theorem dX10_heard_45 : decode cX10_heard 45 = .ok (.ireturn, 1) := by decide +kernel
theorem dX10_heard_46 : decode cX10_heard 46 = .ok (.aload_n 0, 1) := by decide +kernel
theorem dX10_heard_47 : decode cX10_heard 47 = .ok (.getfield 12, 3) := by decide +kernel
theorem dX10_heard_50 : decode cX10_heard 50 = .ok (.getfield 292, 3) := by decide +kernel
theorem dX10_heard_53 : decode cX10_heard 53 = .ok (.iload_n 3, 1) := by decide +kernel
theorem dX10_heard_54 : decode cX10_heard 54 = .ok (.iload_n 1, 1) := by decide +kernel
theorem dX10_heard_55 : decode cX10_heard 55 = .ok (.iastore, 1) := by decide +kernel
theorem dX10_heard_56 : decode cX10_heard 56 = .ok (.aload_n 0, 1) := by decide +kernel
theorem dX10_heard_57 : decode cX10_heard 57 = .ok (.getfield 12, 3) := by decide +kernel
theorem dX10_heard_60 : decode cX10_heard 60 = .ok (.getfield 295, 3) := by decide +kernel
theorem dX10_heard_63 : decode cX10_heard 63 = .ok (.iload_n 3, 1) := by decide +kernel
theorem dX10_heard_64 : decode cX10_heard 64 = .ok (.iload_n 2, 1) := by decide +kernel
theorem dX10_heard_65 : decode cX10_heard 65 = .ok (.iconst 1, 1) := by decide +kernel
theorem dX10_heard_66 : decode cX10_heard 66 = .ok (.if_icmp .ne 7, 3) := by decide +kernel
theorem dX10_heard_69 : decode cX10_heard 69 = .ok (.iconst 1, 1) := by decide +kernel
theorem dX10_heard_70 : decode cX10_heard 70 = .ok (.goto 4, 3) := by decide +kernel
theorem dX10_heard_73 : decode cX10_heard 73 = .ok (.iconst 0, 1) := by decide +kernel
theorem dX10_heard_74 : decode cX10_heard 74 = .ok (.bastore, 1) := by decide +kernel
theorem dX10_heard_75 : decode cX10_heard 75 = .ok (.aload_n 0, 1) := by decide +kernel
theorem dX10_heard_76 : decode cX10_heard 76 = .ok (.getfield 12, 3) := by decide +kernel
theorem dX10_heard_79 : decode cX10_heard 79 = .ok (.iload_n 3, 1) := by decide +kernel
theorem dX10_heard_80 : decode cX10_heard 80 = .ok (.iconst 1, 1) := by decide +kernel
theorem dX10_heard_81 : decode cX10_heard 81 = .ok (.iadd, 1) := by decide +kernel
theorem dX10_heard_82 : decode cX10_heard 82 = .ok (.putfield 289, 3) := by decide +kernel
theorem dX10_heard_85 : decode cX10_heard 85 = .ok (.aload_n 0, 1) := by decide +kernel
theorem dX10_heard_86 : decode cX10_heard 86 = .ok (.iload_n 3, 1) := by decide +kernel
theorem dX10_heard_87 : decode cX10_heard 87 = .ok (.iconst 1, 1) := by decide +kernel
theorem dX10_heard_88 : decode cX10_heard 88 = .ok (.iadd, 1) := by decide +kernel
theorem dX10_heard_89 : decode cX10_heard 89 = .ok (.invokevirtual 127, 3) := by decide +kernel
theorem dX10_heard_92 : decode cX10_heard 92 = .ok (.ireturn, 1) := by decide +kernel
theorem dX10_forget_0 : decode cX10_forget 0 = .ok (.aload_n 0, 1) := by decide +kernel
theorem dX10_forget_1 : decode cX10_forget 1 = .ok (.getfield 12, 3) := by decide +kernel
theorem dX10_forget_4 : decode cX10_forget 4 = .ok (.getfield 289, 3) := by decide +kernel
theorem dX10_forget_7 : decode cX10_forget 7 = .ok (.istore_n 1, 1) := by decide +kernel
theorem dX10_forget_8 : decode cX10_forget 8 = .ok (.aload_n 0, 1) := by decide +kernel
theorem dX10_forget_9 : decode cX10_forget 9 = .ok (.getfield 12, 3) := by decide +kernel
theorem dX10_forget_12 : decode cX10_forget 12 = .ok (.iconst 0, 1) := by decide +kernel
theorem dX10_forget_13 : decode cX10_forget 13 = .ok (.putfield 289, 3) := by decide +kernel
theorem dX10_forget_16 : decode cX10_forget 16 = .ok (.iload_n 1, 1) := by decide +kernel
theorem dX10_forget_17 : decode cX10_forget 17 = .ok (.ireturn, 1) := by decide +kernel
theorem dX10_canBe_0 : decode cX10_canBe 0 = .ok (.aload_n 0, 1) := by decide +kernel
theorem dX10_canBe_1 : decode cX10_canBe 1 = .ok (.getfield 12, 3) := by decide +kernel
theorem dX10_canBe_4 : decode cX10_canBe 4 = .ok (.invokevirtual 298, 3) := by decide +kernel
theorem dX10_canBe_7 : decode cX10_canBe 7 = .ok (.ireturn, 1) := by decide +kernel
theorem dX10_listen_0 : decode cX10_listen 0 = .ok (.aload_n 0, 1) := by decide +kernel
theorem dX10_listen_1 : decode cX10_listen 1 = .ok (.getfield 12, 3) := by decide +kernel
theorem dX10_listen_4 : decode cX10_listen 4 = .ok (.invokevirtual 298, 3) := by decide +kernel
theorem dX10_listen_7 : decode cX10_listen 7 = .ok (.istore_n 2, 1) := by decide +kernel
theorem dX10_listen_8 : decode cX10_listen 8 = .ok (.iload_n 2, 1) := by decide +kernel
theorem dX10_listen_9 : decode cX10_listen 9 = .ok (.ifCond .eq 12, 3) := by decide +kernel
theorem dX10_listen_12 : decode cX10_listen 12 = .ok (.iload_n 1, 1) := by decide +kernel
theorem dX10_listen_13 : decode cX10_listen 13 = .ok (.ifCond .lt 8, 3) := by decide +kernel
theorem dX10_listen_16 : decode cX10_listen 16 = .ok (.iload_n 1, 1) := by decide +kernel
theorem dX10_listen_17 : decode cX10_listen 17 = .ok (.iconst 1, 1) := by decide +kernel
theorem dX10_listen_18 : decode cX10_listen 18 = .ok (.if_icmp .le 5, 3) := by decide +kernel
theorem dX10_listen_21 : decode cX10_listen 21 = .ok (.iconst (-1), 1) := by decide +kernel
theorem dX10_listen_22 : decode cX10_listen 22 = .ok (.ireturn, 1) := by decide +kernel
theorem dX10_listen_23 : decode cX10_listen 23 = .ok (.bipush 7, 2) := by decide +kernel
theorem dX10_listen_25 : decode cX10_listen 25 = .ok (.istore_n 3, 1) := by decide +kernel
theorem dX10_listen_26 : decode cX10_listen 26 = .ok (.iconst 0, 1) := by decide +kernel
theorem dX10_listen_27 : decode cX10_listen 27 = .ok (.istore 4, 2) := by decide +kernel
theorem dX10_listen_29 : decode cX10_listen 29 = .ok (.iconst 0, 1) := by decide +kernel
theorem dX10_listen_30 : decode cX10_listen 30 = .ok (.istore 5, 2) := by decide +kernel
theorem dX10_listen_32 : decode cX10_listen 32 = .ok (.iload 5, 2) := by decide +kernel
theorem dX10_listen_34 : decode cX10_listen 34 = .ok (.bipush 100, 2) := by decide +kernel
theorem dX10_listen_36 : decode cX10_listen 36 = .ok (.if_icmp .ge 31, 3) := by decide +kernel
theorem dX10_listen_39 : decode cX10_listen 39 = .ok (.aload_n 0, 1) := by decide +kernel
theorem dX10_listen_40 : decode cX10_listen 40 = .ok (.iload_n 2, 1) := by decide +kernel
theorem dX10_listen_41 : decode cX10_listen 41 = .ok (.iload 5, 2) := by decide +kernel
theorem dX10_listen_43 : decode cX10_listen 43 = .ok (.invokevirtual 301, 3) := by decide +kernel
theorem dX10_listen_46 : decode cX10_listen 46 = .ok (.istore 6, 2) := by decide +kernel
theorem dX10_listen_48 : decode cX10_listen 48 = .ok (.iload 6, 2) := by decide +kernel
theorem dX10_listen_50 : decode cX10_listen 50 = .ok (.iload_n 3, 1) := by decide +kernel
theorem dX10_listen_51 : decode cX10_listen 51 = .ok (.if_icmp .ge 10, 3) := by decide +kernel
theorem dX10_listen_54 : decode cX10_listen 54 = .ok (.iload 6, 2) := by decide +kernel
theorem dX10_listen_56 : decode cX10_listen 56 = .ok (.istore_n 3, 1) := by decide +kernel
theorem dX10_listen_57 : decode cX10_listen 57 = .ok (.iload 5, 2) := by decide +kernel
theorem dX10_listen_59 : decode cX10_listen 59 = .ok (.istore 4, 2) := by decide +kernel
theorem dX10_listen_61 : decode cX10_listen 61 = .ok (.iinc 5 1, 3) := by decide +kernel
theorem dX10_listen_64 : decode cX10_listen 64 = .ok (.goto (-32), 3) := by decide +kernel
theorem dX10_listen_67 : decode cX10_listen 67 = .ok (.iload_n 1, 1) := by decide +kernel
theorem dX10_listen_68 : decode cX10_listen 68 = .ok (.ifCond .ne 8, 3) := by decide +kernel
theorem dX10_listen_71 : decode cX10_listen 71 = .ok (.iload 4, 2) := by decide +kernel
theorem dX10_listen_73 : decode cX10_listen 73 = .ok (.goto 4, 3) := by decide +kernel
theorem dX10_listen_76 : decode cX10_listen 76 = .ok (.iload_n 3, 1) := by decide +kernel
theorem dX10_listen_77 : decode cX10_listen 77 = .ok (.ireturn, 1) := by decide +kernel
theorem dX10_few_0 : decode cX10_few 0 = .ok (.iload_n 1, 1) := by decide +kernel
theorem dX10_few_1 : decode cX10_few 1 = .ok (.iconst 1, 1) := by decide +kernel
theorem dX10_few_2 : decode cX10_few 2 = .ok (.if_icmp .lt 19, 3) := by decide +kernel
theorem dX10_few_5 : decode cX10_few 5 = .ok (.iload_n 1, 1) := by decide +kernel
theorem dX10_few_6 : decode cX10_few 6 = .ok (.bipush 20, 2) := by decide +kernel
theorem dX10_few_8 : decode cX10_few 8 = .ok (.if_icmp .gt 13, 3) := by decide +kernel
theorem dX10_few_11 : decode cX10_few 11 = .ok (.iload_n 2, 1) := by decide +kernel
theorem dX10_few_12 : decode cX10_few 12 = .ok (.ifCond .lt 9, 3) := by decide +kernel
theorem dX10_few_15 : decode cX10_few 15 = .ok (.iload_n 2, 1) := by decide +kernel
theorem dX10_few_16 : decode cX10_few 16 = .ok (.bipush 99, 2) := by decide +kernel
theorem dX10_few_18 : decode cX10_few 18 = .ok (.if_icmp .le 7, 3) := by decide +kernel
theorem dX10_few_21 : decode cX10_few 21 = .ok (.ldc2_w 304, 3) := by decide +kernel
theorem dX10_few_24 : decode cX10_few 24 = .ok (.lreturn, 1) := by decide +kernel
theorem dX10_few_25 : decode cX10_few 25 = .ok (.iconst 0, 1) := by decide +kernel
theorem dX10_few_26 : decode cX10_few 26 = .ok (.istore_n 3, 1) := by decide +kernel
theorem dX10_few_27 : decode cX10_few 27 = .ok (.iload_n 3, 1) := by decide +kernel
theorem dX10_few_28 : decode cX10_few 28 = .ok (.bipush 20, 2) := by decide +kernel
theorem dX10_few_30 : decode cX10_few 30 = .ok (.if_icmp .ge 26, 3) := by decide +kernel
theorem dX10_few_33 : decode cX10_few 33 = .ok (.aload_n 0, 1) := by decide +kernel
theorem dX10_few_34 : decode cX10_few 34 = .ok (.getfield 88, 3) := by decide +kernel
theorem dX10_few_37 : decode cX10_few 37 = .ok (.iload_n 3, 1) := by decide +kernel
theorem dX10_few_38 : decode cX10_few 38 = .ok (.iload_n 3, 1) := by decide +kernel
theorem dX10_few_39 : decode cX10_few 39 = .ok (.ifCond .ne 9, 3) := by decide +kernel
theorem dX10_few_42 : decode cX10_few 42 = .ok (.ldc2_w 306, 3) := by decide +kernel
theorem dX10_few_45 : decode cX10_few 45 = .ok (.goto 4, 3) := by decide +kernel
theorem dX10_few_48 : decode cX10_few 48 = .ok (.lconst 0, 1) := by decide +kernel
theorem dX10_few_49 : decode cX10_few 49 = .ok (.lastore, 1) := by decide +kernel
theorem dX10_few_50 : decode cX10_few 50 = .ok (.iinc 3 1, 3) := by decide +kernel
theorem dX10_few_53 : decode cX10_few 53 = .ok (.goto (-26), 3) := by decide +kernel
theorem dX10_few_56 : decode cX10_few 56 = .ok (.iconst 0, 1) := by decide +kernel
theorem dX10_few_57 : decode cX10_few 57 = .ok (.istore_n 3, 1) := by decide +kernel
theorem dX10_few_58 : decode cX10_few 58 = .ok (.iload_n 3, 1) := by decide +kernel
theorem dX10_few_59 : decode cX10_few 59 = .ok (.iload_n 2, 1) := by decide +kernel
theorem dX10_few_60 : decode cX10_few 60 = .ok (.if_icmp .ge 13, 3) := by decide +kernel
theorem dX10_few_63 : decode cX10_few 63 = .ok (.aload_n 0, 1) := by decide +kernel
theorem dX10_few_64 : decode cX10_few 64 = .ok (.invokevirtual 308, 3) := by decide +kernel
theorem dX10_few_67 : decode cX10_few 67 = .ok (.iinc 3 1, 3) := by decide +kernel
theorem dX10_few_70 : decode cX10_few 70 = .ok (.goto (-12), 3) := by decide +kernel
theorem dX10_few_73 : decode cX10_few 73 = .ok (.lconst 0, 1) := by decide +kernel
theorem dX10_few_74 : decode cX10_few 74 = .ok (.lstore_n 3, 1) := by decide +kernel
theorem dX10_few_75 : decode cX10_few 75 = .ok (.iconst 0, 1) := by decide +kernel
theorem dX10_few_76 : decode cX10_few 76 = .ok (.istore 5, 2) := by decide +kernel
theorem dX10_few_78 : decode cX10_few 78 = .ok (.iload 5, 2) := by decide +kernel
theorem dX10_few_80 : decode cX10_few 80 = .ok (.iload_n 1, 1) := by decide +kernel
theorem dX10_few_81 : decode cX10_few 81 = .ok (.if_icmp .ge 19, 3) := by decide +kernel
theorem dX10_few_84 : decode cX10_few 84 = .ok (.lload_n 3, 1) := by decide +kernel
theorem dX10_few_85 : decode cX10_few 85 = .ok (.aload_n 0, 1) := by decide +kernel
theorem dX10_few_86 : decode cX10_few 86 = .ok (.getfield 88, 3) := by decide +kernel
theorem dX10_few_89 : decode cX10_few 89 = .ok (.iload 5, 2) := by decide +kernel
theorem dX10_few_91 : decode cX10_few 91 = .ok (.laload, 1) := by decide +kernel
theorem dX10_few_92 : decode cX10_few 92 = .ok (.ladd, 1) := by decide +kernel
theorem dX10_few_93 : decode cX10_few 93 = .ok (.lstore_n 3, 1) := by decide +kernel
theorem dX10_few_94 : decode cX10_few 94 = .ok (.iinc 5 1, 3) := by decide +kernel
theorem dX10_few_97 : decode cX10_few 97 = .ok (.goto (-19), 3) := by decide +kernel
theorem dX10_few_100 : decode cX10_few 100 = .ok (.lload_n 3, 1) := by decide +kernel
theorem dX10_few_101 : decode cX10_few 101 = .ok (.lreturn, 1) := by decide +kernel
theorem dX10_compare_0 : decode cX10_compare 0 = .ok (.iload_n 1, 1) := by decide +kernel
theorem dX10_compare_1 : decode cX10_compare 1 = .ok (.iconst (-1), 1) := by decide +kernel
theorem dX10_compare_2 : decode cX10_compare 2 = .ok (.if_icmp .eq 16, 3) := by decide +kernel
theorem dX10_compare_5 : decode cX10_compare 5 = .ok (.aload_n 0, 1) := by decide +kernel
theorem dX10_compare_6 : decode cX10_compare 6 = .ok (.getfield 12, 3) := by decide +kernel
theorem dX10_compare_9 : decode cX10_compare 9 = .ok (.iload_n 1, 1) := by decide +kernel
theorem dX10_compare_10 : decode cX10_compare 10 = .ok (.invokevirtual 159, 3) := by decide +kernel
theorem dX10_compare_13 : decode cX10_compare 13 = .ok (.ifnonnull 5, 3) := by decide +kernel
theorem dX10_compare_16 : decode cX10_compare 16 = .ok (.iconst (-1), 1) := by decide +kernel
theorem dX10_compare_17 : decode cX10_compare 17 = .ok (.ireturn, 1) := by decide +kernel
theorem dX10_compare_18 : decode cX10_compare 18 = .ok (.aload_n 0, 1) := by decide +kernel
theorem dX10_compare_19 : decode cX10_compare 19 = .ok (.getfield 84, 3) := by decide +kernel
theorem dX10_compare_22 : decode cX10_compare 22 = .ok (.aload_n 0, 1) := by decide +kernel
theorem dX10_compare_23 : decode cX10_compare 23 = .ok (.getfield 12, 3) := by decide +kernel
theorem dX10_compare_26 : decode cX10_compare 26 = .ok (.aload_n 0, 1) := by decide +kernel
theorem dX10_compare_27 : decode cX10_compare 27 = .ok (.getfield 12, 3) := by decide +kernel
theorem dX10_compare_30 : decode cX10_compare 30 = .ok (.iload_n 1, 1) := by decide +kernel
theorem dX10_compare_31 : decode cX10_compare 31 = .ok (.invokevirtual 159, 3) := by decide +kernel
theorem dX10_compare_34 : decode cX10_compare 34 = .ok (.invokevirtual 256, 3) := by decide +kernel
theorem dX10_compare_37 : decode cX10_compare 37 = .ok (.aload_n 0, 1) := by decide +kernel
theorem dX10_compare_38 : decode cX10_compare 38 = .ok (.getfield 84, 3) := by decide +kernel
theorem dX10_compare_41 : decode cX10_compare 41 = .ok (.invokevirtual 311, 3) := by decide +kernel
theorem dX10_compare_44 : decode cX10_compare 44 = .ok (.ireturn, 1) := by decide +kernel
theorem dX10_days_0 : decode cX10_days 0 = .ok (.iload_n 1, 1) := by decide +kernel
theorem dX10_days_1 : decode cX10_days 1 = .ok (.ifCond .lt 21, 3) := by decide +kernel
theorem dX10_days_4 : decode cX10_days 4 = .ok (.iload_n 1, 1) := by decide +kernel
theorem dX10_days_5 : decode cX10_days 5 = .ok (.ldc_w 314, 3) := by decide +kernel
theorem dX10_days_8 : decode cX10_days 8 = .ok (.if_icmp .gt 14, 3) := by decide +kernel
theorem dX10_days_11 : decode cX10_days 11 = .ok (.iload_n 2, 1) := by decide +kernel
theorem dX10_days_12 : decode cX10_days 12 = .ok (.iconst 1, 1) := by decide +kernel
theorem dX10_days_13 : decode cX10_days 13 = .ok (.if_icmp .lt 9, 3) := by decide +kernel
theorem dX10_days_16 : decode cX10_days 16 = .ok (.iload_n 2, 1) := by decide +kernel
theorem dX10_days_17 : decode cX10_days 17 = .ok (.bipush 60, 2) := by decide +kernel
theorem dX10_days_19 : decode cX10_days 19 = .ok (.if_icmp .le 9, 3) := by decide +kernel
theorem dX10_days_22 : decode cX10_days 22 = .ok (.aload_n 0, 1) := by decide +kernel
theorem dX10_days_23 : decode cX10_days 23 = .ok (.iconst (-1), 1) := by decide +kernel
theorem dX10_days_24 : decode cX10_days 24 = .ok (.invokevirtual 113, 3) := by decide +kernel
theorem dX10_days_27 : decode cX10_days 27 = .ok (.ireturn, 1) := by decide +kernel
theorem dX10_days_28 : decode cX10_days 28 = .ok (.aload_n 0, 1) := by decide +kernel
theorem dX10_days_29 : decode cX10_days 29 = .ok (.getfield 12, 3) := by decide +kernel
theorem dX10_days_32 : decode cX10_days 32 = .ok (.getfield 117, 3) := by decide +kernel
theorem dX10_days_35 : decode cX10_days 35 = .ok (.ifCond .ne 10, 3) := by decide +kernel
theorem dX10_days_38 : decode cX10_days 38 = .ok (.aload_n 0, 1) := by decide +kernel
theorem dX10_days_39 : decode cX10_days 39 = .ok (.bipush (-3), 2) := by decide +kernel
theorem dX10_days_41 : decode cX10_days 41 = .ok (.invokevirtual 113, 3) := by decide +kernel
theorem dX10_days_44 : decode cX10_days 44 = .ok (.ireturn, 1) := by decide +kernel
theorem dX10_days_45 : decode cX10_days 45 = .ok (.aload_n 0, 1) := by decide +kernel
theorem dX10_days_46 : decode cX10_days 46 = .ok (.getfield 19, 3) := by decide +kernel
theorem dX10_days_49 : decode cX10_days 49 = .ok (.aload_n 0, 1) := by decide +kernel
theorem dX10_days_50 : decode cX10_days 50 = .ok (.getfield 12, 3) := by decide +kernel
theorem dX10_days_53 : decode cX10_days 53 = .ok (.invokevirtual 208, 3) := by decide +kernel
theorem dX10_days_56 : decode cX10_days 56 = .ok (.iload_n 1, 1) := by decide +kernel
theorem dX10_days_57 : decode cX10_days 57 = .ok (.istore_n 3, 1) := by decide +kernel
theorem dX10_days_58 : decode cX10_days 58 = .ok (.iconst 0, 1) := by decide +kernel
theorem dX10_days_59 : decode cX10_days 59 = .ok (.istore 4, 2) := by decide +kernel
theorem dX10_days_61 : decode cX10_days 61 = .ok (.iconst 0, 1) := by decide +kernel
theorem dX10_days_62 : decode cX10_days 62 = .ok (.istore 5, 2) := by decide +kernel
theorem dX10_days_64 : decode cX10_days 64 = .ok (.iload 5, 2) := by decide +kernel
theorem dX10_days_66 : decode cX10_days 66 = .ok (.iload_n 2, 1) := by decide +kernel
theorem dX10_days_67 : decode cX10_days 67 = .ok (.if_icmp .ge 98, 3) := by decide +kernel
theorem dX10_days_70 : decode cX10_days 70 = .ok (.aload_n 0, 1) := by decide +kernel
theorem dX10_days_71 : decode cX10_days 71 = .ok (.getfield 19, 3) := by decide +kernel
theorem dX10_days_74 : decode cX10_days 74 = .ok (.getfield 117, 3) := by decide +kernel
theorem dX10_days_77 : decode cX10_days 77 = .ok (.ifCond .le 88, 3) := by decide +kernel
theorem dX10_days_80 : decode cX10_days 80 = .ok (.aload_n 0, 1) := by decide +kernel
theorem dX10_days_81 : decode cX10_days 81 = .ok (.getfield 19, 3) := by decide +kernel
theorem dX10_days_84 : decode cX10_days 84 = .ok (.getfield 174, 3) := by decide +kernel
theorem dX10_days_87 : decode cX10_days 87 = .ok (.iconst 0, 1) := by decide +kernel
theorem dX10_days_88 : decode cX10_days 88 = .ok (.iaload, 1) := by decide +kernel
theorem dX10_days_89 : decode cX10_days 89 = .ok (.sipush 999, 3) := by decide +kernel
theorem dX10_days_92 : decode cX10_days 92 = .ok (.if_icmp .ge 73, 3) := by decide +kernel
theorem dX10_days_95 : decode cX10_days 95 = .ok (.iload_n 3, 1) := by decide +kernel
theorem dX10_days_96 : decode cX10_days 96 = .ok (.invokestatic 315, 3) := by decide +kernel
theorem dX10_days_99 : decode cX10_days 99 = .ok (.istore 6, 2) := by decide +kernel
theorem dX10_days_101 : decode cX10_days 101 = .ok (.iload 6, 2) := by decide +kernel
theorem dX10_days_103 : decode cX10_days 103 = .ok (.invokestatic 315, 3) := by decide +kernel
theorem dX10_days_106 : decode cX10_days 106 = .ok (.istore 7, 2) := by decide +kernel
theorem dX10_days_108 : decode cX10_days 108 = .ok (.iload 7, 2) := by decide +kernel
theorem dX10_days_110 : decode cX10_days 110 = .ok (.invokestatic 315, 3) := by decide +kernel
theorem dX10_days_113 : decode cX10_days 113 = .ok (.istore_n 3, 1) := by decide +kernel
theorem dX10_days_114 : decode cX10_days 114 = .ok (.aload_n 0, 1) := by decide +kernel
theorem dX10_days_115 : decode cX10_days 115 = .ok (.getfield 68, 3) := by decide +kernel
theorem dX10_days_118 : decode cX10_days 118 = .ok (.aload_n 0, 1) := by decide +kernel
theorem dX10_days_119 : decode cX10_days 119 = .ok (.getfield 19, 3) := by decide +kernel
theorem dX10_days_122 : decode cX10_days 122 = .ok (.iload_n 3, 1) := by decide +kernel
theorem dX10_days_123 : decode cX10_days 123 = .ok (.iconst 3, 1) := by decide +kernel
theorem dX10_days_124 : decode cX10_days 124 = .ok (.irem, 1) := by decide +kernel
theorem dX10_days_125 : decode cX10_days 125 = .ok (.iload 6, 2) := by decide +kernel
theorem dX10_days_127 : decode cX10_days 127 = .ok (.aload_n 0, 1) := by decide +kernel
theorem dX10_days_128 : decode cX10_days 128 = .ok (.getfield 19, 3) := by decide +kernel
theorem dX10_days_131 : decode cX10_days 131 = .ok (.getfield 117, 3) := by decide +kernel
theorem dX10_days_134 : decode cX10_days 134 = .ok (.irem, 1) := by decide +kernel
theorem dX10_days_135 : decode cX10_days 135 = .ok (.iload 7, 2) := by decide +kernel
theorem dX10_days_137 : decode cX10_days 137 = .ok (.bipush 12, 2) := by decide +kernel
theorem dX10_days_139 : decode cX10_days 139 = .ok (.irem, 1) := by decide +kernel
theorem dX10_days_140 : decode cX10_days 140 = .ok (.invokevirtual 318, 3) := by decide +kernel
theorem dX10_days_143 : decode cX10_days 143 = .ok (.iload 4, 2) := by decide +kernel
theorem dX10_days_145 : decode cX10_days 145 = .ok (.aload_n 0, 1) := by decide +kernel
theorem dX10_days_146 : decode cX10_days 146 = .ok (.getfield 68, 3) := by decide +kernel
theorem dX10_days_149 : decode cX10_days 149 = .ok (.aload_n 0, 1) := by decide +kernel
theorem dX10_days_150 : decode cX10_days 150 = .ok (.getfield 19, 3) := by decide +kernel
theorem dX10_days_153 : decode cX10_days 153 = .ok (.invokevirtual 322, 3) := by decide +kernel
theorem dX10_days_156 : decode cX10_days 156 = .ok (.iadd, 1) := by decide +kernel
theorem dX10_days_157 : decode cX10_days 157 = .ok (.istore 4, 2) := by decide +kernel
theorem dX10_days_159 : decode cX10_days 159 = .ok (.iinc 5 1, 3) := by decide +kernel
theorem dX10_days_162 : decode cX10_days 162 = .ok (.goto (-98), 3) := by decide +kernel
theorem dX10_days_165 : decode cX10_days 165 = .ok (.aload_n 0, 1) := by decide +kernel
theorem dX10_days_166 : decode cX10_days 166 = .ok (.iload 4, 2) := by decide +kernel
theorem dX10_days_168 : decode cX10_days 168 = .ok (.invokevirtual 127, 3) := by decide +kernel
theorem dX10_days_171 : decode cX10_days 171 = .ok (.ireturn, 1) := by decide +kernel
theorem dX10_drawn_0 : decode cX10_drawn 0 = .ok (.aload_n 0, 1) := by decide +kernel
theorem dX10_drawn_1 : decode cX10_drawn 1 = .ok (.getfield 19, 3) := by decide +kernel
theorem dX10_drawn_4 : decode cX10_drawn 4 = .ok (.iload_n 1, 1) := by decide +kernel
theorem dX10_drawn_5 : decode cX10_drawn 5 = .ok (.invokevirtual 130, 3) := by decide +kernel
theorem dX10_drawn_8 : decode cX10_drawn 8 = .ok (.ifCond .ne 5, 3) := by decide +kernel
theorem dX10_drawn_11 : decode cX10_drawn 11 = .ok (.iconst (-1), 1) := by decide +kernel
theorem dX10_drawn_12 : decode cX10_drawn 12 = .ok (.ireturn, 1) := by decide +kernel
theorem dX10_drawn_13 : decode cX10_drawn 13 = .ok (.iload_n 2, 1) := by decide +kernel
theorem dX10_drawn_14 : decode cX10_drawn 14 = .ok (.tableswitch 63 0 2 #[26, 36, 46], 26) := by decide +kernel
theorem dX10_drawn_40 : decode cX10_drawn 40 = .ok (.aload_n 0, 1) := by decide +kernel
theorem dX10_drawn_41 : decode cX10_drawn 41 = .ok (.getfield 19, 3) := by decide +kernel
theorem dX10_drawn_44 : decode cX10_drawn 44 = .ok (.getfield 143, 3) := by decide +kernel
theorem dX10_drawn_47 : decode cX10_drawn 47 = .ok (.iload_n 1, 1) := by decide +kernel
theorem dX10_drawn_48 : decode cX10_drawn 48 = .ok (.iaload, 1) := by decide +kernel
theorem dX10_drawn_49 : decode cX10_drawn 49 = .ok (.ireturn, 1) := by decide +kernel
theorem dX10_drawn_50 : decode cX10_drawn 50 = .ok (.aload_n 0, 1) := by decide +kernel
theorem dX10_drawn_51 : decode cX10_drawn 51 = .ok (.getfield 19, 3) := by decide +kernel
theorem dX10_drawn_54 : decode cX10_drawn 54 = .ok (.getfield 140, 3) := by decide +kernel
theorem dX10_drawn_57 : decode cX10_drawn 57 = .ok (.iload_n 1, 1) := by decide +kernel
theorem dX10_drawn_58 : decode cX10_drawn 58 = .ok (.iaload, 1) := by decide +kernel
theorem dX10_drawn_59 : decode cX10_drawn 59 = .ok (.ireturn, 1) := by decide +kernel
theorem dX10_drawn_60 : decode cX10_drawn 60 = .ok (.aload_n 0, 1) := by decide +kernel
theorem dX10_drawn_61 : decode cX10_drawn 61 = .ok (.getfield 19, 3) := by decide +kernel
theorem dX10_drawn_64 : decode cX10_drawn 64 = .ok (.iload_n 1, 1) := by decide +kernel
theorem dX10_drawn_65 : decode cX10_drawn 65 = .ok (.invokevirtual 146, 3) := by decide +kernel
theorem dX10_drawn_68 : decode cX10_drawn 68 = .ok (.ifCond .eq 7, 3) := by decide +kernel
theorem dX10_drawn_71 : decode cX10_drawn 71 = .ok (.iconst 1, 1) := by decide +kernel
theorem dX10_drawn_72 : decode cX10_drawn 72 = .ok (.goto 4, 3) := by decide +kernel
theorem dX10_drawn_75 : decode cX10_drawn 75 = .ok (.iconst 0, 1) := by decide +kernel
theorem dX10_drawn_76 : decode cX10_drawn 76 = .ok (.ireturn, 1) := by decide +kernel
theorem dX10_drawn_77 : decode cX10_drawn 77 = .ok (.iconst (-1), 1) := by decide +kernel
theorem dX10_drawn_78 : decode cX10_drawn 78 = .ok (.ireturn, 1) := by decide +kernel
theorem dX10_image_0 : decode cX10_image 0 = .ok (.iload_n 1, 1) := by decide +kernel
theorem dX10_image_1 : decode cX10_image 1 = .ok (.ifCond .lt 8, 3) := by decide +kernel
theorem dX10_image_4 : decode cX10_image 4 = .ok (.iload_n 1, 1) := by decide +kernel
theorem dX10_image_5 : decode cX10_image 5 = .ok (.iconst 2, 1) := by decide +kernel
theorem dX10_image_6 : decode cX10_image 6 = .ok (.if_icmp .lt 9, 3) := by decide +kernel
theorem dX10_image_9 : decode cX10_image 9 = .ok (.aload_n 0, 1) := by decide +kernel
theorem dX10_image_10 : decode cX10_image 10 = .ok (.iconst (-1), 1) := by decide +kernel
theorem dX10_image_11 : decode cX10_image 11 = .ok (.invokevirtual 113, 3) := by decide +kernel
theorem dX10_image_14 : decode cX10_image 14 = .ok (.ireturn, 1) := by decide +kernel
theorem dX10_image_15 : decode cX10_image 15 = .ok (.aload_n 0, 1) := by decide +kernel
theorem dX10_image_16 : decode cX10_image 16 = .ok (.getfield 22, 3) := by decide +kernel
theorem dX10_image_19 : decode cX10_image 19 = .ok (.iload_n 1, 1) := by decide +kernel
theorem dX10_image_20 : decode cX10_image 20 = .ok (.aaload, 1) := by decide +kernel
theorem dX10_image_21 : decode cX10_image 21 = .ok (.aload_n 0, 1) := by decide +kernel
theorem dX10_image_22 : decode cX10_image 22 = .ok (.getfield 12, 3) := by decide +kernel
theorem dX10_image_25 : decode cX10_image 25 = .ok (.invokevirtual 208, 3) := by decide +kernel
theorem dX10_image_28 : decode cX10_image 28 = .ok (.aload_n 0, 1) := by decide +kernel
theorem dX10_image_29 : decode cX10_image 29 = .ok (.getfield 26, 3) := by decide +kernel
theorem dX10_image_32 : decode cX10_image 32 = .ok (.iload_n 1, 1) := by decide +kernel
theorem dX10_image_33 : decode cX10_image 33 = .ok (.iconst 1, 1) := by decide +kernel
theorem dX10_image_34 : decode cX10_image 34 = .ok (.bastore, 1) := by decide +kernel
theorem dX10_image_35 : decode cX10_image 35 = .ok (.aload_n 0, 1) := by decide +kernel
theorem dX10_image_36 : decode cX10_image 36 = .ok (.iconst 0, 1) := by decide +kernel
theorem dX10_image_37 : decode cX10_image 37 = .ok (.invokevirtual 127, 3) := by decide +kernel
theorem dX10_image_40 : decode cX10_image 40 = .ok (.ireturn, 1) := by decide +kernel
theorem dX10_back_0 : decode cX10_back 0 = .ok (.iload_n 1, 1) := by decide +kernel
theorem dX10_back_1 : decode cX10_back 1 = .ok (.ifCond .lt 8, 3) := by decide +kernel
theorem dX10_back_4 : decode cX10_back 4 = .ok (.iload_n 1, 1) := by decide +kernel
theorem dX10_back_5 : decode cX10_back 5 = .ok (.iconst 2, 1) := by decide +kernel
theorem dX10_back_6 : decode cX10_back 6 = .ok (.if_icmp .lt 9, 3) := by decide +kernel
theorem dX10_back_9 : decode cX10_back 9 = .ok (.aload_n 0, 1) := by decide +kernel
theorem dX10_back_10 : decode cX10_back 10 = .ok (.iconst (-1), 1) := by decide +kernel
theorem dX10_back_11 : decode cX10_back 11 = .ok (.invokevirtual 113, 3) := by decide +kernel
theorem dX10_back_14 : decode cX10_back 14 = .ok (.ireturn, 1) := by decide +kernel
theorem dX10_back_15 : decode cX10_back 15 = .ok (.aload_n 0, 1) := by decide +kernel
theorem dX10_back_16 : decode cX10_back 16 = .ok (.getfield 26, 3) := by decide +kernel
theorem dX10_back_19 : decode cX10_back 19 = .ok (.iload_n 1, 1) := by decide +kernel
theorem dX10_back_20 : decode cX10_back 20 = .ok (.baload, 1) := by decide +kernel
theorem dX10_back_21 : decode cX10_back 21 = .ok (.ifCond .ne 10, 3) := by decide +kernel
theorem dX10_back_24 : decode cX10_back 24 = .ok (.aload_n 0, 1) := by decide +kernel
theorem dX10_back_25 : decode cX10_back 25 = .ok (.bipush (-2), 2) := by decide +kernel
theorem dX10_back_27 : decode cX10_back 27 = .ok (.invokevirtual 113, 3) := by decide +kernel
theorem dX10_back_30 : decode cX10_back 30 = .ok (.ireturn, 1) := by decide +kernel
theorem dX10_back_31 : decode cX10_back 31 = .ok (.aload_n 0, 1) := by decide +kernel
theorem dX10_back_32 : decode cX10_back 32 = .ok (.getfield 12, 3) := by decide +kernel
theorem dX10_back_35 : decode cX10_back 35 = .ok (.aload_n 0, 1) := by decide +kernel
theorem dX10_back_36 : decode cX10_back 36 = .ok (.getfield 22, 3) := by decide +kernel
theorem dX10_back_39 : decode cX10_back 39 = .ok (.iload_n 1, 1) := by decide +kernel
theorem dX10_back_40 : decode cX10_back 40 = .ok (.aaload, 1) := by decide +kernel
theorem dX10_back_41 : decode cX10_back 41 = .ok (.invokevirtual 208, 3) := by decide +kernel
theorem dX10_back_44 : decode cX10_back 44 = .ok (.aload_n 0, 1) := by decide +kernel
theorem dX10_back_45 : decode cX10_back 45 = .ok (.getfield 33, 3) := by decide +kernel
theorem dX10_back_48 : decode cX10_back 48 = .ok (.invokevirtual 124, 3) := by decide +kernel
theorem dX10_back_51 : decode cX10_back 51 = .ok (.aload_n 0, 1) := by decide +kernel
theorem dX10_back_52 : decode cX10_back 52 = .ok (.iconst 0, 1) := by decide +kernel
theorem dX10_back_53 : decode cX10_back 53 = .ok (.invokevirtual 127, 3) := by decide +kernel
theorem dX10_back_56 : decode cX10_back 56 = .ok (.ireturn, 1) := by decide +kernel
theorem dX10_count_0 : decode cX10_count 0 = .ok (.iload_n 1, 1) := by decide +kernel
theorem dX10_count_1 : decode cX10_count 1 = .ok (.tableswitch 209 0 15 #[79, 87, 95, 103, 111, 119, 127, 135, 142, 149, 156, 163, 171, 179, 189, 199], 79) := by decide +kernel
theorem dX10_count_80 : decode cX10_count 80 = .ok (.aload_n 0, 1) := by decide +kernel
theorem dX10_count_81 : decode cX10_count 81 = .ok (.getfield 12, 3) := by decide +kernel
theorem dX10_count_84 : decode cX10_count 84 = .ok (.getfield 117, 3) := by decide +kernel
theorem dX10_count_87 : decode cX10_count 87 = .ok (.ireturn, 1) := by decide +kernel
theorem dX10_count_88 : decode cX10_count 88 = .ok (.aload_n 0, 1) := by decide +kernel
theorem dX10_count_89 : decode cX10_count 89 = .ok (.getfield 12, 3) := by decide +kernel
theorem dX10_count_92 : decode cX10_count 92 = .ok (.invokevirtual 325, 3) := by decide +kernel
theorem dX10_count_95 : decode cX10_count 95 = .ok (.ireturn, 1) := by decide +kernel
theorem dX10_count_96 : decode cX10_count 96 = .ok (.aload_n 0, 1) := by decide +kernel
theorem dX10_count_97 : decode cX10_count 97 = .ok (.getfield 12, 3) := by decide +kernel
theorem dX10_count_100 : decode cX10_count 100 = .ok (.invokevirtual 328, 3) := by decide +kernel
theorem dX10_count_103 : decode cX10_count 103 = .ok (.ireturn, 1) := by decide +kernel
theorem dX10_count_104 : decode cX10_count 104 = .ok (.aload_n 0, 1) := by decide +kernel
theorem dX10_count_105 : decode cX10_count 105 = .ok (.getfield 12, 3) := by decide +kernel
theorem dX10_count_108 : decode cX10_count 108 = .ok (.getfield 289, 3) := by decide +kernel
theorem dX10_count_111 : decode cX10_count 111 = .ok (.ireturn, 1) := by decide +kernel
theorem dX10_count_112 : decode cX10_count 112 = .ok (.aload_n 0, 1) := by decide +kernel
theorem dX10_count_113 : decode cX10_count 113 = .ok (.getfield 12, 3) := by decide +kernel
theorem dX10_count_116 : decode cX10_count 116 = .ok (.getfield 187, 3) := by decide +kernel
theorem dX10_count_119 : decode cX10_count 119 = .ok (.ireturn, 1) := by decide +kernel
theorem dX10_count_120 : decode cX10_count 120 = .ok (.aload_n 0, 1) := by decide +kernel
theorem dX10_count_121 : decode cX10_count 121 = .ok (.getfield 33, 3) := by decide +kernel
theorem dX10_count_124 : decode cX10_count 124 = .ok (.getfield 229, 3) := by decide +kernel
theorem dX10_count_127 : decode cX10_count 127 = .ok (.ireturn, 1) := by decide +kernel
theorem dX10_count_128 : decode cX10_count 128 = .ok (.aload_n 0, 1) := by decide +kernel
theorem dX10_count_129 : decode cX10_count 129 = .ok (.getfield 43, 3) := by decide +kernel
theorem dX10_count_132 : decode cX10_count 132 = .ok (.getfield 177, 3) := by decide +kernel
theorem dX10_count_135 : decode cX10_count 135 = .ok (.ireturn, 1) := by decide +kernel
theorem dX10_count_136 : decode cX10_count 136 = .ok (.aload_n 0, 1) := by decide +kernel
theorem dX10_count_137 : decode cX10_count 137 = .ok (.getfield 92, 3) := by decide +kernel
theorem dX10_count_140 : decode cX10_count 140 = .ok (.iconst 1, 1) := by decide +kernel
theorem dX10_count_141 : decode cX10_count 141 = .ok (.iaload, 1) := by decide +kernel
theorem dX10_count_142 : decode cX10_count 142 = .ok (.ireturn, 1) := by decide +kernel
theorem dX10_count_143 : decode cX10_count 143 = .ok (.aload_n 0, 1) := by decide +kernel
theorem dX10_count_144 : decode cX10_count 144 = .ok (.getfield 92, 3) := by decide +kernel
theorem dX10_count_147 : decode cX10_count 147 = .ok (.iconst 2, 1) := by decide +kernel
theorem dX10_count_148 : decode cX10_count 148 = .ok (.iaload, 1) := by decide +kernel
theorem dX10_count_149 : decode cX10_count 149 = .ok (.ireturn, 1) := by decide +kernel
theorem dX10_count_150 : decode cX10_count 150 = .ok (.aload_n 0, 1) := by decide +kernel
theorem dX10_count_151 : decode cX10_count 151 = .ok (.getfield 92, 3) := by decide +kernel
theorem dX10_count_154 : decode cX10_count 154 = .ok (.iconst 3, 1) := by decide +kernel
theorem dX10_count_155 : decode cX10_count 155 = .ok (.iaload, 1) := by decide +kernel
theorem dX10_count_156 : decode cX10_count 156 = .ok (.ireturn, 1) := by decide +kernel
theorem dX10_count_157 : decode cX10_count 157 = .ok (.aload_n 0, 1) := by decide +kernel
theorem dX10_count_158 : decode cX10_count 158 = .ok (.getfield 92, 3) := by decide +kernel
theorem dX10_count_161 : decode cX10_count 161 = .ok (.iconst 5, 1) := by decide +kernel
theorem dX10_count_162 : decode cX10_count 162 = .ok (.iaload, 1) := by decide +kernel
theorem dX10_count_163 : decode cX10_count 163 = .ok (.ireturn, 1) := by decide +kernel
theorem dX10_count_164 : decode cX10_count 164 = .ok (.aload_n 0, 1) := by decide +kernel
theorem dX10_count_165 : decode cX10_count 165 = .ok (.getfield 92, 3) := by decide +kernel
theorem dX10_count_168 : decode cX10_count 168 = .ok (.bipush 6, 2) := by decide +kernel
theorem dX10_count_170 : decode cX10_count 170 = .ok (.iaload, 1) := by decide +kernel
theorem dX10_count_171 : decode cX10_count 171 = .ok (.ireturn, 1) := by decide +kernel
theorem dX10_count_172 : decode cX10_count 172 = .ok (.aload_n 0, 1) := by decide +kernel
theorem dX10_count_173 : decode cX10_count 173 = .ok (.getfield 12, 3) := by decide +kernel
theorem dX10_count_176 : decode cX10_count 176 = .ok (.getfield 156, 3) := by decide +kernel
theorem dX10_count_179 : decode cX10_count 179 = .ok (.ireturn, 1) := by decide +kernel
theorem dX10_count_180 : decode cX10_count 180 = .ok (.aload_n 0, 1) := by decide +kernel
theorem dX10_count_181 : decode cX10_count 181 = .ok (.getfield 12, 3) := by decide +kernel
theorem dX10_count_184 : decode cX10_count 184 = .ok (.getfield 174, 3) := by decide +kernel
theorem dX10_count_187 : decode cX10_count 187 = .ok (.iconst 0, 1) := by decide +kernel
theorem dX10_count_188 : decode cX10_count 188 = .ok (.iaload, 1) := by decide +kernel
theorem dX10_count_189 : decode cX10_count 189 = .ok (.ireturn, 1) := by decide +kernel
theorem dX10_count_190 : decode cX10_count 190 = .ok (.aload_n 0, 1) := by decide +kernel
theorem dX10_count_191 : decode cX10_count 191 = .ok (.getfield 12, 3) := by decide +kernel
theorem dX10_count_194 : decode cX10_count 194 = .ok (.getfield 174, 3) := by decide +kernel
theorem dX10_count_197 : decode cX10_count 197 = .ok (.iconst 1, 1) := by decide +kernel
theorem dX10_count_198 : decode cX10_count 198 = .ok (.iaload, 1) := by decide +kernel
theorem dX10_count_199 : decode cX10_count 199 = .ok (.ireturn, 1) := by decide +kernel
theorem dX10_count_200 : decode cX10_count 200 = .ok (.aload_n 0, 1) := by decide +kernel
theorem dX10_count_201 : decode cX10_count 201 = .ok (.getfield 12, 3) := by decide +kernel
theorem dX10_count_204 : decode cX10_count 204 = .ok (.getfield 174, 3) := by decide +kernel
theorem dX10_count_207 : decode cX10_count 207 = .ok (.iconst 2, 1) := by decide +kernel
theorem dX10_count_208 : decode cX10_count 208 = .ok (.iaload, 1) := by decide +kernel
theorem dX10_count_209 : decode cX10_count 209 = .ok (.ireturn, 1) := by decide +kernel
theorem dX10_count_210 : decode cX10_count 210 = .ok (.iconst (-1), 1) := by decide +kernel
theorem dX10_count_211 : decode cX10_count 211 = .ok (.ireturn, 1) := by decide +kernel
theorem dX10_status_0 : decode cX10_status 0 = .ok (.aload_n 0, 1) := by decide +kernel
theorem dX10_status_1 : decode cX10_status 1 = .ok (.getfield 96, 3) := by decide +kernel
theorem dX10_status_4 : decode cX10_status 4 = .ok (.ireturn, 1) := by decide +kernel
theorem dX10_accept_0 : decode cX10_accept 0 = .ok (.aload_n 0, 1) := by decide +kernel
theorem dX10_accept_1 : decode cX10_accept 1 = .ok (.iconst 0, 1) := by decide +kernel
theorem dX10_accept_2 : decode cX10_accept 2 = .ok (.putfield 96, 3) := by decide +kernel
theorem dX10_accept_5 : decode cX10_accept 5 = .ok (.iload_n 1, 1) := by decide +kernel
theorem dX10_accept_6 : decode cX10_accept 6 = .ok (.ireturn, 1) := by decide +kernel
theorem dX10_refuse_0 : decode cX10_refuse 0 = .ok (.aload_n 0, 1) := by decide +kernel
theorem dX10_refuse_1 : decode cX10_refuse 1 = .ok (.iload_n 1, 1) := by decide +kernel
theorem dX10_refuse_2 : decode cX10_refuse 2 = .ok (.putfield 96, 3) := by decide +kernel
theorem dX10_refuse_5 : decode cX10_refuse 5 = .ok (.iload_n 1, 1) := by decide +kernel
theorem dX10_refuse_6 : decode cX10_refuse 6 = .ok (.ineg, 1) := by decide +kernel
theorem dX10_refuse_7 : decode cX10_refuse 7 = .ok (.ifCond .lt 24, 3) := by decide +kernel
theorem dX10_refuse_10 : decode cX10_refuse 10 = .ok (.iload_n 1, 1) := by decide +kernel
theorem dX10_refuse_11 : decode cX10_refuse 11 = .ok (.ineg, 1) := by decide +kernel
theorem dX10_refuse_12 : decode cX10_refuse 12 = .ok (.aload_n 0, 1) := by decide +kernel
theorem dX10_refuse_13 : decode cX10_refuse 13 = .ok (.getfield 92, 3) := by decide +kernel
theorem dX10_refuse_16 : decode cX10_refuse 16 = .ok (.arraylength, 1) := by decide +kernel
theorem dX10_refuse_17 : decode cX10_refuse 17 = .ok (.if_icmp .ge 14, 3) := by decide +kernel
theorem dX10_refuse_20 : decode cX10_refuse 20 = .ok (.aload_n 0, 1) := by decide +kernel
theorem dX10_refuse_21 : decode cX10_refuse 21 = .ok (.getfield 92, 3) := by decide +kernel
theorem dX10_refuse_24 : decode cX10_refuse 24 = .ok (.iload_n 1, 1) := by decide +kernel
theorem dX10_refuse_25 : decode cX10_refuse 25 = .ok (.ineg, 1) := by decide +kernel
theorem dX10_refuse_26 : decode cX10_refuse 26 = .ok (.dup2, 1) := by decide +kernel
theorem dX10_refuse_27 : decode cX10_refuse 27 = .ok (.iaload, 1) := by decide +kernel
theorem dX10_refuse_28 : decode cX10_refuse 28 = .ok (.iconst 1, 1) := by decide +kernel
theorem dX10_refuse_29 : decode cX10_refuse 29 = .ok (.iadd, 1) := by decide +kernel
theorem dX10_refuse_30 : decode cX10_refuse 30 = .ok (.iastore, 1) := by decide +kernel
theorem dX10_refuse_31 : decode cX10_refuse 31 = .ok (.iload_n 1, 1) := by decide +kernel
theorem dX10_refuse_32 : decode cX10_refuse 32 = .ok (.ireturn, 1) := by decide +kernel
theorem dX10_settle_0 : decode cX10_settle 0 = .ok (.iload_n 1, 1) := by decide +kernel
theorem dX10_settle_1 : decode cX10_settle 1 = .ok (.ifCond .ge 11, 3) := by decide +kernel
theorem dX10_settle_4 : decode cX10_settle 4 = .ok (.aload_n 0, 1) := by decide +kernel
theorem dX10_settle_5 : decode cX10_settle 5 = .ok (.iload_n 1, 1) := by decide +kernel
theorem dX10_settle_6 : decode cX10_settle 6 = .ok (.invokevirtual 113, 3) := by decide +kernel
theorem dX10_settle_9 : decode cX10_settle 9 = .ok (.goto 8, 3) := by decide +kernel
theorem dX10_settle_12 : decode cX10_settle 12 = .ok (.aload_n 0, 1) := by decide +kernel
theorem dX10_settle_13 : decode cX10_settle 13 = .ok (.iload_n 1, 1) := by decide +kernel
theorem dX10_settle_14 : decode cX10_settle 14 = .ok (.invokevirtual 127, 3) := by decide +kernel
theorem dX10_settle_17 : decode cX10_settle 17 = .ok (.ireturn, 1) := by decide +kernel
theorem dX10_takeFour_0 : decode cX10_takeFour 0 = .ok (.iload_n 1, 1) := by decide +kernel
theorem dX10_takeFour_1 : decode cX10_takeFour 1 = .ok (.ifCond .lt 41, 3) := by decide +kernel
theorem dX10_takeFour_4 : decode cX10_takeFour 4 = .ok (.iload_n 1, 1) := by decide +kernel
theorem dX10_takeFour_5 : decode cX10_takeFour 5 = .ok (.iconst 4, 1) := by decide +kernel
theorem dX10_takeFour_6 : decode cX10_takeFour 6 = .ok (.iadd, 1) := by decide +kernel
theorem dX10_takeFour_7 : decode cX10_takeFour 7 = .ok (.aload_n 0, 1) := by decide +kernel
theorem dX10_takeFour_8 : decode cX10_takeFour 8 = .ok (.getfield 43, 3) := by decide +kernel
theorem dX10_takeFour_11 : decode cX10_takeFour 11 = .ok (.getfield 177, 3) := by decide +kernel
theorem dX10_takeFour_14 : decode cX10_takeFour 14 = .ok (.if_icmp .gt 28, 3) := by decide +kernel
theorem dX10_takeFour_17 : decode cX10_takeFour 17 = .ok (.aload_n 0, 1) := by decide +kernel
theorem dX10_takeFour_18 : decode cX10_takeFour 18 = .ok (.getfield 43, 3) := by decide +kernel
theorem dX10_takeFour_21 : decode cX10_takeFour 21 = .ok (.getfield 177, 3) := by decide +kernel
theorem dX10_takeFour_24 : decode cX10_takeFour 24 = .ok (.sipush 400, 3) := by decide +kernel
theorem dX10_takeFour_27 : decode cX10_takeFour 27 = .ok (.if_icmp .gt 15, 3) := by decide +kernel
theorem dX10_takeFour_30 : decode cX10_takeFour 30 = .ok (.aload_n 0, 1) := by decide +kernel
theorem dX10_takeFour_31 : decode cX10_takeFour 31 = .ok (.getfield 12, 3) := by decide +kernel
theorem dX10_takeFour_34 : decode cX10_takeFour 34 = .ok (.getfield 117, 3) := by decide +kernel
theorem dX10_takeFour_37 : decode cX10_takeFour 37 = .ok (.bipush 6, 2) := by decide +kernel
theorem dX10_takeFour_39 : decode cX10_takeFour 39 = .ok (.if_icmp .lt 4, 3) := by decide +kernel
theorem dX10_takeFour_42 : decode cX10_takeFour 42 = .ok (.return_, 1) := by decide +kernel
theorem dX10_takeFour_43 : decode cX10_takeFour 43 = .ok (.aload_n 0, 1) := by decide +kernel
theorem dX10_takeFour_44 : decode cX10_takeFour 44 = .ok (.getfield 43, 3) := by decide +kernel
theorem dX10_takeFour_47 : decode cX10_takeFour 47 = .ok (.getfield 331, 3) := by decide +kernel
theorem dX10_takeFour_50 : decode cX10_takeFour 50 = .ok (.iload_n 1, 1) := by decide +kernel
theorem dX10_takeFour_51 : decode cX10_takeFour 51 = .ok (.iaload, 1) := by decide +kernel
theorem dX10_takeFour_52 : decode cX10_takeFour 52 = .ok (.istore_n 2, 1) := by decide +kernel
theorem dX10_takeFour_53 : decode cX10_takeFour 53 = .ok (.aload_n 0, 1) := by decide +kernel
theorem dX10_takeFour_54 : decode cX10_takeFour 54 = .ok (.getfield 43, 3) := by decide +kernel
theorem dX10_takeFour_57 : decode cX10_takeFour 57 = .ok (.getfield 331, 3) := by decide +kernel
theorem dX10_takeFour_60 : decode cX10_takeFour 60 = .ok (.iload_n 1, 1) := by decide +kernel
theorem dX10_takeFour_61 : decode cX10_takeFour 61 = .ok (.iconst 1, 1) := by decide +kernel
theorem dX10_takeFour_62 : decode cX10_takeFour 62 = .ok (.iadd, 1) := by decide +kernel
theorem dX10_takeFour_63 : decode cX10_takeFour 63 = .ok (.iaload, 1) := by decide +kernel
theorem dX10_takeFour_64 : decode cX10_takeFour 64 = .ok (.istore_n 3, 1) := by decide +kernel
theorem dX10_takeFour_65 : decode cX10_takeFour 65 = .ok (.aload_n 0, 1) := by decide +kernel
theorem dX10_takeFour_66 : decode cX10_takeFour 66 = .ok (.getfield 43, 3) := by decide +kernel
theorem dX10_takeFour_69 : decode cX10_takeFour 69 = .ok (.getfield 331, 3) := by decide +kernel
theorem dX10_takeFour_72 : decode cX10_takeFour 72 = .ok (.iload_n 1, 1) := by decide +kernel
theorem dX10_takeFour_73 : decode cX10_takeFour 73 = .ok (.iconst 2, 1) := by decide +kernel
theorem dX10_takeFour_74 : decode cX10_takeFour 74 = .ok (.iadd, 1) := by decide +kernel
theorem dX10_takeFour_75 : decode cX10_takeFour 75 = .ok (.iaload, 1) := by decide +kernel
theorem dX10_takeFour_76 : decode cX10_takeFour 76 = .ok (.istore 4, 2) := by decide +kernel
theorem dX10_takeFour_78 : decode cX10_takeFour 78 = .ok (.aload_n 0, 1) := by decide +kernel
theorem dX10_takeFour_79 : decode cX10_takeFour 79 = .ok (.getfield 43, 3) := by decide +kernel
theorem dX10_takeFour_82 : decode cX10_takeFour 82 = .ok (.getfield 331, 3) := by decide +kernel
theorem dX10_takeFour_85 : decode cX10_takeFour 85 = .ok (.iload_n 1, 1) := by decide +kernel
theorem dX10_takeFour_86 : decode cX10_takeFour 86 = .ok (.iconst 3, 1) := by decide +kernel
theorem dX10_takeFour_87 : decode cX10_takeFour 87 = .ok (.iadd, 1) := by decide +kernel
theorem dX10_takeFour_88 : decode cX10_takeFour 88 = .ok (.iaload, 1) := by decide +kernel
theorem dX10_takeFour_89 : decode cX10_takeFour 89 = .ok (.istore 5, 2) := by decide +kernel
theorem dX10_takeFour_91 : decode cX10_takeFour 91 = .ok (.iload_n 2, 1) := by decide +kernel
theorem dX10_takeFour_92 : decode cX10_takeFour 92 = .ok (.iload_n 3, 1) := by decide +kernel
theorem dX10_takeFour_93 : decode cX10_takeFour 93 = .ok (.iload 4, 2) := by decide +kernel
theorem dX10_takeFour_95 : decode cX10_takeFour 95 = .ok (.iload 5, 2) := by decide +kernel
theorem dX10_takeFour_97 : decode cX10_takeFour 97 = .ok (.invokestatic 109, 3) := by decide +kernel
theorem dX10_takeFour_100 : decode cX10_takeFour 100 = .ok (.ifCond .eq 16, 3) := by decide +kernel
theorem dX10_takeFour_103 : decode cX10_takeFour 103 = .ok (.aload_n 0, 1) := by decide +kernel
theorem dX10_takeFour_104 : decode cX10_takeFour 104 = .ok (.getfield 12, 3) := by decide +kernel
theorem dX10_takeFour_107 : decode cX10_takeFour 107 = .ok (.iload_n 2, 1) := by decide +kernel
theorem dX10_takeFour_108 : decode cX10_takeFour 108 = .ok (.iload_n 3, 1) := by decide +kernel
theorem dX10_takeFour_109 : decode cX10_takeFour 109 = .ok (.iload 4, 2) := by decide +kernel
theorem dX10_takeFour_111 : decode cX10_takeFour 111 = .ok (.iload 5, 2) := by decide +kernel
theorem dX10_takeFour_113 : decode cX10_takeFour 113 = .ok (.invokevirtual 120, 3) := by decide +kernel
theorem dX10_takeFour_116 : decode cX10_takeFour 116 = .ok (.return_, 1) := by decide +kernel
theorem dX10_leftBehind_0 : decode cX10_leftBehind 0 = .ok (.iconst 0, 1) := by decide +kernel
theorem dX10_leftBehind_1 : decode cX10_leftBehind 1 = .ok (.istore_n 3, 1) := by decide +kernel
theorem dX10_leftBehind_2 : decode cX10_leftBehind 2 = .ok (.iconst 0, 1) := by decide +kernel
theorem dX10_leftBehind_3 : decode cX10_leftBehind 3 = .ok (.istore 4, 2) := by decide +kernel
theorem dX10_leftBehind_5 : decode cX10_leftBehind 5 = .ok (.iconst 0, 1) := by decide +kernel
theorem dX10_leftBehind_6 : decode cX10_leftBehind 6 = .ok (.istore 5, 2) := by decide +kernel
theorem dX10_leftBehind_8 : decode cX10_leftBehind 8 = .ok (.iload 5, 2) := by decide +kernel
theorem dX10_leftBehind_10 : decode cX10_leftBehind 10 = .ok (.aload_n 0, 1) := by decide +kernel
theorem dX10_leftBehind_11 : decode cX10_leftBehind 11 = .ok (.getfield 12, 3) := by decide +kernel
theorem dX10_leftBehind_14 : decode cX10_leftBehind 14 = .ok (.getfield 117, 3) := by decide +kernel
theorem dX10_leftBehind_17 : decode cX10_leftBehind 17 = .ok (.if_icmp .ge 40, 3) := by decide +kernel
theorem dX10_leftBehind_20 : decode cX10_leftBehind 20 = .ok (.iload_n 1, 1) := by decide +kernel
theorem dX10_leftBehind_21 : decode cX10_leftBehind 21 = .ok (.iload 5, 2) := by decide +kernel
theorem dX10_leftBehind_23 : decode cX10_leftBehind 23 = .ok (.ishr, 1) := by decide +kernel
theorem dX10_leftBehind_24 : decode cX10_leftBehind 24 = .ok (.iconst 1, 1) := by decide +kernel
theorem dX10_leftBehind_25 : decode cX10_leftBehind 25 = .ok (.iand, 1) := by decide +kernel
theorem dX10_leftBehind_26 : decode cX10_leftBehind 26 = .ok (.ifCond .eq 25, 3) := by decide +kernel
theorem dX10_leftBehind_29 : decode cX10_leftBehind 29 = .ok (.aload_n 0, 1) := by decide +kernel
theorem dX10_leftBehind_30 : decode cX10_leftBehind 30 = .ok (.getfield 12, 3) := by decide +kernel
theorem dX10_leftBehind_33 : decode cX10_leftBehind 33 = .ok (.iload 5, 2) := by decide +kernel
theorem dX10_leftBehind_35 : decode cX10_leftBehind 35 = .ok (.iload_n 2, 1) := by decide +kernel
theorem dX10_leftBehind_36 : decode cX10_leftBehind 36 = .ok (.invokevirtual 149, 3) := by decide +kernel
theorem dX10_leftBehind_39 : decode cX10_leftBehind 39 = .ok (.ifCond .eq 9, 3) := by decide +kernel
theorem dX10_leftBehind_42 : decode cX10_leftBehind 42 = .ok (.iinc 3 1, 3) := by decide +kernel
theorem dX10_leftBehind_45 : decode cX10_leftBehind 45 = .ok (.goto 6, 3) := by decide +kernel
theorem dX10_leftBehind_48 : decode cX10_leftBehind 48 = .ok (.iinc 4 1, 3) := by decide +kernel
theorem dX10_leftBehind_51 : decode cX10_leftBehind 51 = .ok (.iinc 5 1, 3) := by decide +kernel
theorem dX10_leftBehind_54 : decode cX10_leftBehind 54 = .ok (.goto (-46), 3) := by decide +kernel
theorem dX10_leftBehind_57 : decode cX10_leftBehind 57 = .ok (.iload_n 3, 1) := by decide +kernel
theorem dX10_leftBehind_58 : decode cX10_leftBehind 58 = .ok (.iload 4, 2) := by decide +kernel
theorem dX10_leftBehind_60 : decode cX10_leftBehind 60 = .ok (.invokestatic 334, 3) := by decide +kernel
theorem dX10_leftBehind_63 : decode cX10_leftBehind 63 = .ok (.ireturn, 1) := by decide +kernel
theorem dX10_letOneSlip_0 : decode cX10_letOneSlip 0 = .ok (.aload_n 0, 1) := by decide +kernel
theorem dX10_letOneSlip_1 : decode cX10_letOneSlip 1 = .ok (.getfield 12, 3) := by decide +kernel
theorem dX10_letOneSlip_4 : decode cX10_letOneSlip 4 = .ok (.getfield 174, 3) := by decide +kernel
theorem dX10_letOneSlip_7 : decode cX10_letOneSlip 7 = .ok (.iconst 1, 1) := by decide +kernel
theorem dX10_letOneSlip_8 : decode cX10_letOneSlip 8 = .ok (.iaload, 1) := by decide +kernel
theorem dX10_letOneSlip_9 : decode cX10_letOneSlip 9 = .ok (.i2l, 1) := by decide +kernel
theorem dX10_letOneSlip_10 : decode cX10_letOneSlip 10 = .ok (.lstore_n 1, 1) := by decide +kernel
theorem dX10_letOneSlip_11 : decode cX10_letOneSlip 11 = .ok (.bipush 19, 2) := by decide +kernel
theorem dX10_letOneSlip_13 : decode cX10_letOneSlip 13 = .ok (.istore_n 3, 1) := by decide +kernel
theorem dX10_letOneSlip_14 : decode cX10_letOneSlip 14 = .ok (.iload_n 3, 1) := by decide +kernel
theorem dX10_letOneSlip_15 : decode cX10_letOneSlip 15 = .ok (.ifCond .lt 62, 3) := by decide +kernel
theorem dX10_letOneSlip_18 : decode cX10_letOneSlip 18 = .ok (.aload_n 0, 1) := by decide +kernel
theorem dX10_letOneSlip_19 : decode cX10_letOneSlip 19 = .ok (.getfield 88, 3) := by decide +kernel
theorem dX10_letOneSlip_22 : decode cX10_letOneSlip 22 = .ok (.iload_n 3, 1) := by decide +kernel
theorem dX10_letOneSlip_23 : decode cX10_letOneSlip 23 = .ok (.laload, 1) := by decide +kernel
theorem dX10_letOneSlip_24 : decode cX10_letOneSlip 24 = .ok (.ldc2_w 339, 3) := by decide +kernel
theorem dX10_letOneSlip_27 : decode cX10_letOneSlip 27 = .ok (.lload_n 1, 1) := by decide +kernel
theorem dX10_letOneSlip_28 : decode cX10_letOneSlip 28 = .ok (.lsub, 1) := by decide +kernel
theorem dX10_letOneSlip_29 : decode cX10_letOneSlip 29 = .ok (.lmul, 1) := by decide +kernel
theorem dX10_letOneSlip_30 : decode cX10_letOneSlip 30 = .ok (.ldc2_w 339, 3) := by decide +kernel
theorem dX10_letOneSlip_33 : decode cX10_letOneSlip 33 = .ok (.ldiv, 1) := by decide +kernel
theorem dX10_letOneSlip_34 : decode cX10_letOneSlip 34 = .ok (.lstore 4, 2) := by decide +kernel
theorem dX10_letOneSlip_36 : decode cX10_letOneSlip 36 = .ok (.iload_n 3, 1) := by decide +kernel
theorem dX10_letOneSlip_37 : decode cX10_letOneSlip 37 = .ok (.ifCond .le 20, 3) := by decide +kernel
theorem dX10_letOneSlip_40 : decode cX10_letOneSlip 40 = .ok (.aload_n 0, 1) := by decide +kernel
theorem dX10_letOneSlip_41 : decode cX10_letOneSlip 41 = .ok (.getfield 88, 3) := by decide +kernel
theorem dX10_letOneSlip_44 : decode cX10_letOneSlip 44 = .ok (.iload_n 3, 1) := by decide +kernel
theorem dX10_letOneSlip_45 : decode cX10_letOneSlip 45 = .ok (.iconst 1, 1) := by decide +kernel
theorem dX10_letOneSlip_46 : decode cX10_letOneSlip 46 = .ok (.isub, 1) := by decide +kernel
theorem dX10_letOneSlip_47 : decode cX10_letOneSlip 47 = .ok (.laload, 1) := by decide +kernel
theorem dX10_letOneSlip_48 : decode cX10_letOneSlip 48 = .ok (.lload_n 1, 1) := by decide +kernel
theorem dX10_letOneSlip_49 : decode cX10_letOneSlip 49 = .ok (.lmul, 1) := by decide +kernel
theorem dX10_letOneSlip_50 : decode cX10_letOneSlip 50 = .ok (.ldc2_w 339, 3) := by decide +kernel
theorem dX10_letOneSlip_53 : decode cX10_letOneSlip 53 = .ok (.ldiv, 1) := by decide +kernel
theorem dX10_letOneSlip_54 : decode cX10_letOneSlip 54 = .ok (.goto 4, 3) := by decide +kernel
theorem dX10_letOneSlip_57 : decode cX10_letOneSlip 57 = .ok (.lconst 0, 1) := by decide +kernel
theorem dX10_letOneSlip_58 : decode cX10_letOneSlip 58 = .ok (.lstore 6, 2) := by decide +kernel
theorem dX10_letOneSlip_60 : decode cX10_letOneSlip 60 = .ok (.aload_n 0, 1) := by decide +kernel
theorem dX10_letOneSlip_61 : decode cX10_letOneSlip 61 = .ok (.getfield 88, 3) := by decide +kernel
theorem dX10_letOneSlip_64 : decode cX10_letOneSlip 64 = .ok (.iload_n 3, 1) := by decide +kernel
theorem dX10_letOneSlip_65 : decode cX10_letOneSlip 65 = .ok (.lload 4, 2) := by decide +kernel
theorem dX10_letOneSlip_67 : decode cX10_letOneSlip 67 = .ok (.lload 6, 2) := by decide +kernel
theorem dX10_letOneSlip_69 : decode cX10_letOneSlip 69 = .ok (.ladd, 1) := by decide +kernel
theorem dX10_letOneSlip_70 : decode cX10_letOneSlip 70 = .ok (.lastore, 1) := by decide +kernel
theorem dX10_letOneSlip_71 : decode cX10_letOneSlip 71 = .ok (.iinc 3 (-1), 3) := by decide +kernel
theorem dX10_letOneSlip_74 : decode cX10_letOneSlip 74 = .ok (.goto (-60), 3) := by decide +kernel
theorem dX10_letOneSlip_77 : decode cX10_letOneSlip 77 = .ok (.return_, 1) := by decide +kernel
theorem dX10_draw_0 : decode cX10_draw 0 = .ok (.iload_n 0, 1) := by decide +kernel
theorem dX10_draw_1 : decode cX10_draw 1 = .ok (.sipush 1103, 3) := by decide +kernel
theorem dX10_draw_4 : decode cX10_draw 4 = .ok (.imul, 1) := by decide +kernel
theorem dX10_draw_5 : decode cX10_draw 5 = .ok (.sipush 12345, 3) := by decide +kernel
theorem dX10_draw_8 : decode cX10_draw 8 = .ok (.iadd, 1) := by decide +kernel
theorem dX10_draw_9 : decode cX10_draw 9 = .ok (.ldc_w 341, 3) := by decide +kernel
theorem dX10_draw_12 : decode cX10_draw 12 = .ok (.irem, 1) := by decide +kernel
theorem dX10_draw_13 : decode cX10_draw 13 = .ok (.ireturn, 1) := by decide +kernel
theorem dL_law_0 : decode cL_law 0 = .ok (.new 7, 3) := by decide +kernel
theorem dL_law_3 : decode cL_law 3 = .ok (.dup, 1) := by decide +kernel
theorem dL_law_4 : decode cL_law 4 = .ok (.invokespecial 9, 3) := by decide +kernel
theorem dL_law_7 : decode cL_law 7 = .ok (.astore_n 1, 1) := by decide +kernel
theorem dL_law_8 : decode cL_law 8 = .ok (.new 10, 3) := by decide +kernel
theorem dL_law_11 : decode cL_law 11 = .ok (.dup, 1) := by decide +kernel
theorem dL_law_12 : decode cL_law 12 = .ok (.invokespecial 12, 3) := by decide +kernel
theorem dL_law_15 : decode cL_law 15 = .ok (.astore_n 2, 1) := by decide +kernel
theorem dL_law_16 : decode cL_law 16 = .ok (.iconst 0, 1) := by decide +kernel
theorem dL_law_17 : decode cL_law 17 = .ok (.istore_n 3, 1) := by decide +kernel
theorem dL_law_18 : decode cL_law 18 = .ok (.iload_n 3, 1) := by decide +kernel
theorem dL_law_19 : decode cL_law 19 = .ok (.aload_n 0, 1) := by decide +kernel
theorem dL_law_20 : decode cL_law 20 = .ok (.arraylength, 1) := by decide +kernel
theorem dL_law_21 : decode cL_law 21 = .ok (.bipush 6, 2) := by decide +kernel
theorem dL_law_23 : decode cL_law 23 = .ok (.isub, 1) := by decide +kernel
theorem dL_law_24 : decode cL_law 24 = .ok (.if_icmp .gt 1235, 3) := by decide +kernel
theorem dL_law_27 : decode cL_law 27 = .ok (.aload_n 0, 1) := by decide +kernel
theorem dL_law_28 : decode cL_law 28 = .ok (.iload_n 3, 1) := by decide +kernel
theorem dL_law_29 : decode cL_law 29 = .ok (.iaload, 1) := by decide +kernel
theorem dL_law_30 : decode cL_law 30 = .ok (.bipush 63, 2) := by decide +kernel
theorem dL_law_32 : decode cL_law 32 = .ok (.iand, 1) := by decide +kernel
theorem dL_law_33 : decode cL_law 33 = .ok (.tableswitch 1220 0 41 #[183, 236, 269, 312, 345, 408, 431, 444, 457, 470, 483, 496, 509, 532, 565, 598, 621, 634, 647, 670, 683, 706, 729, 752, 775, 798, 831, 864, 887, 920, 933, 966, 979, 992, 1015, 1049, 1072, 1105, 1138, 1161, 1184, 1207], 183) := by decide +kernel
theorem dL_law_216 : decode cL_law 216 = .ok (.aload_n 1, 1) := by decide +kernel
theorem dL_law_217 : decode cL_law 217 = .ok (.aload_n 0, 1) := by decide +kernel
theorem dL_law_218 : decode cL_law 218 = .ok (.iload_n 3, 1) := by decide +kernel
theorem dL_law_219 : decode cL_law 219 = .ok (.iconst 1, 1) := by decide +kernel
theorem dL_law_220 : decode cL_law 220 = .ok (.iadd, 1) := by decide +kernel
theorem dL_law_221 : decode cL_law 221 = .ok (.iaload, 1) := by decide +kernel
theorem dL_law_222 : decode cL_law 222 = .ok (.aload_n 0, 1) := by decide +kernel
theorem dL_law_223 : decode cL_law 223 = .ok (.iload_n 3, 1) := by decide +kernel
theorem dL_law_224 : decode cL_law 224 = .ok (.iconst 2, 1) := by decide +kernel
theorem dL_law_225 : decode cL_law 225 = .ok (.iadd, 1) := by decide +kernel
theorem dL_law_226 : decode cL_law 226 = .ok (.iaload, 1) := by decide +kernel
theorem dL_law_227 : decode cL_law 227 = .ok (.aload_n 0, 1) := by decide +kernel
theorem dL_law_228 : decode cL_law 228 = .ok (.iload_n 3, 1) := by decide +kernel
theorem dL_law_229 : decode cL_law 229 = .ok (.iconst 3, 1) := by decide +kernel
theorem dL_law_230 : decode cL_law 230 = .ok (.iadd, 1) := by decide +kernel
theorem dL_law_231 : decode cL_law 231 = .ok (.iaload, 1) := by decide +kernel
theorem dL_law_232 : decode cL_law 232 = .ok (.aload_n 0, 1) := by decide +kernel
theorem dL_law_233 : decode cL_law 233 = .ok (.iload_n 3, 1) := by decide +kernel
theorem dL_law_234 : decode cL_law 234 = .ok (.iconst 4, 1) := by decide +kernel
theorem dL_law_235 : decode cL_law 235 = .ok (.iadd, 1) := by decide +kernel
theorem dL_law_236 : decode cL_law 236 = .ok (.iaload, 1) := by decide +kernel
theorem dL_law_237 : decode cL_law 237 = .ok (.invokevirtual 13, 3) := by decide +kernel
theorem dL_law_240 : decode cL_law 240 = .ok (.aload_n 2, 1) := by decide +kernel
theorem dL_law_241 : decode cL_law 241 = .ok (.aload_n 0, 1) := by decide +kernel
theorem dL_law_242 : decode cL_law 242 = .ok (.iload_n 3, 1) := by decide +kernel
theorem dL_law_243 : decode cL_law 243 = .ok (.iconst 1, 1) := by decide +kernel
theorem dL_law_244 : decode cL_law 244 = .ok (.iadd, 1) := by decide +kernel
theorem dL_law_245 : decode cL_law 245 = .ok (.iaload, 1) := by decide +kernel
theorem dL_law_246 : decode cL_law 246 = .ok (.aload_n 0, 1) := by decide +kernel
theorem dL_law_247 : decode cL_law 247 = .ok (.iload_n 3, 1) := by decide +kernel
theorem dL_law_248 : decode cL_law 248 = .ok (.iconst 2, 1) := by decide +kernel
theorem dL_law_249 : decode cL_law 249 = .ok (.iadd, 1) := by decide +kernel
theorem dL_law_250 : decode cL_law 250 = .ok (.iaload, 1) := by decide +kernel
theorem dL_law_251 : decode cL_law 251 = .ok (.aload_n 0, 1) := by decide +kernel
theorem dL_law_252 : decode cL_law 252 = .ok (.iload_n 3, 1) := by decide +kernel
theorem dL_law_253 : decode cL_law 253 = .ok (.iconst 3, 1) := by decide +kernel
theorem dL_law_254 : decode cL_law 254 = .ok (.iadd, 1) := by decide +kernel
theorem dL_law_255 : decode cL_law 255 = .ok (.iaload, 1) := by decide +kernel
theorem dL_law_256 : decode cL_law 256 = .ok (.aload_n 0, 1) := by decide +kernel
theorem dL_law_257 : decode cL_law 257 = .ok (.iload_n 3, 1) := by decide +kernel
theorem dL_law_258 : decode cL_law 258 = .ok (.iconst 4, 1) := by decide +kernel
theorem dL_law_259 : decode cL_law 259 = .ok (.iadd, 1) := by decide +kernel
theorem dL_law_260 : decode cL_law 260 = .ok (.iaload, 1) := by decide +kernel
theorem dL_law_261 : decode cL_law 261 = .ok (.invokevirtual 17, 3) := by decide +kernel
theorem dL_law_264 : decode cL_law 264 = .ok (.if_icmp .eq 989, 3) := by decide +kernel
theorem dL_law_267 : decode cL_law 267 = .ok (.iconst 0, 1) := by decide +kernel
theorem dL_law_268 : decode cL_law 268 = .ok (.ireturn, 1) := by decide +kernel
theorem dL_law_269 : decode cL_law 269 = .ok (.aload_n 1, 1) := by decide +kernel
theorem dL_law_270 : decode cL_law 270 = .ok (.aload_n 0, 1) := by decide +kernel
theorem dL_law_271 : decode cL_law 271 = .ok (.iload_n 3, 1) := by decide +kernel
theorem dL_law_272 : decode cL_law 272 = .ok (.iconst 1, 1) := by decide +kernel
theorem dL_law_273 : decode cL_law 273 = .ok (.iadd, 1) := by decide +kernel
theorem dL_law_274 : decode cL_law 274 = .ok (.iaload, 1) := by decide +kernel
theorem dL_law_275 : decode cL_law 275 = .ok (.aload_n 0, 1) := by decide +kernel
theorem dL_law_276 : decode cL_law 276 = .ok (.iload_n 3, 1) := by decide +kernel
theorem dL_law_277 : decode cL_law 277 = .ok (.iconst 2, 1) := by decide +kernel
theorem dL_law_278 : decode cL_law 278 = .ok (.iadd, 1) := by decide +kernel
theorem dL_law_279 : decode cL_law 279 = .ok (.iaload, 1) := by decide +kernel
theorem dL_law_280 : decode cL_law 280 = .ok (.invokevirtual 18, 3) := by decide +kernel
theorem dL_law_283 : decode cL_law 283 = .ok (.aload_n 2, 1) := by decide +kernel
theorem dL_law_284 : decode cL_law 284 = .ok (.aload_n 0, 1) := by decide +kernel
theorem dL_law_285 : decode cL_law 285 = .ok (.iload_n 3, 1) := by decide +kernel
theorem dL_law_286 : decode cL_law 286 = .ok (.iconst 1, 1) := by decide +kernel
theorem dL_law_287 : decode cL_law 287 = .ok (.iadd, 1) := by decide +kernel
theorem dL_law_288 : decode cL_law 288 = .ok (.iaload, 1) := by decide +kernel
theorem dL_law_289 : decode cL_law 289 = .ok (.aload_n 0, 1) := by decide +kernel
theorem dL_law_290 : decode cL_law 290 = .ok (.iload_n 3, 1) := by decide +kernel
theorem dL_law_291 : decode cL_law 291 = .ok (.iconst 2, 1) := by decide +kernel
theorem dL_law_292 : decode cL_law 292 = .ok (.iadd, 1) := by decide +kernel
theorem dL_law_293 : decode cL_law 293 = .ok (.iaload, 1) := by decide +kernel
theorem dL_law_294 : decode cL_law 294 = .ok (.invokevirtual 22, 3) := by decide +kernel
theorem dL_law_297 : decode cL_law 297 = .ok (.if_icmp .eq 956, 3) := by decide +kernel
theorem dL_law_300 : decode cL_law 300 = .ok (.iconst 0, 1) := by decide +kernel
theorem dL_law_301 : decode cL_law 301 = .ok (.ireturn, 1) := by decide +kernel
theorem dL_law_302 : decode cL_law 302 = .ok (.aload_n 1, 1) := by decide +kernel
theorem dL_law_303 : decode cL_law 303 = .ok (.aload_n 0, 1) := by decide +kernel
theorem dL_law_304 : decode cL_law 304 = .ok (.iload_n 3, 1) := by decide +kernel
theorem dL_law_305 : decode cL_law 305 = .ok (.iconst 1, 1) := by decide +kernel
theorem dL_law_306 : decode cL_law 306 = .ok (.iadd, 1) := by decide +kernel
theorem dL_law_307 : decode cL_law 307 = .ok (.iaload, 1) := by decide +kernel
theorem dL_law_308 : decode cL_law 308 = .ok (.aload_n 0, 1) := by decide +kernel
theorem dL_law_309 : decode cL_law 309 = .ok (.iload_n 3, 1) := by decide +kernel
theorem dL_law_310 : decode cL_law 310 = .ok (.iconst 2, 1) := by decide +kernel
theorem dL_law_311 : decode cL_law 311 = .ok (.iadd, 1) := by decide +kernel
theorem dL_law_312 : decode cL_law 312 = .ok (.iaload, 1) := by decide +kernel
theorem dL_law_313 : decode cL_law 313 = .ok (.aload_n 0, 1) := by decide +kernel
theorem dL_law_314 : decode cL_law 314 = .ok (.iload_n 3, 1) := by decide +kernel
theorem dL_law_315 : decode cL_law 315 = .ok (.iconst 3, 1) := by decide +kernel
theorem dL_law_316 : decode cL_law 316 = .ok (.iadd, 1) := by decide +kernel
theorem dL_law_317 : decode cL_law 317 = .ok (.iaload, 1) := by decide +kernel
theorem dL_law_318 : decode cL_law 318 = .ok (.invokevirtual 23, 3) := by decide +kernel
theorem dL_law_321 : decode cL_law 321 = .ok (.aload_n 2, 1) := by decide +kernel
theorem dL_law_322 : decode cL_law 322 = .ok (.aload_n 0, 1) := by decide +kernel
theorem dL_law_323 : decode cL_law 323 = .ok (.iload_n 3, 1) := by decide +kernel
theorem dL_law_324 : decode cL_law 324 = .ok (.iconst 1, 1) := by decide +kernel
theorem dL_law_325 : decode cL_law 325 = .ok (.iadd, 1) := by decide +kernel
theorem dL_law_326 : decode cL_law 326 = .ok (.iaload, 1) := by decide +kernel
theorem dL_law_327 : decode cL_law 327 = .ok (.aload_n 0, 1) := by decide +kernel
theorem dL_law_328 : decode cL_law 328 = .ok (.iload_n 3, 1) := by decide +kernel
theorem dL_law_329 : decode cL_law 329 = .ok (.iconst 2, 1) := by decide +kernel
theorem dL_law_330 : decode cL_law 330 = .ok (.iadd, 1) := by decide +kernel
theorem dL_law_331 : decode cL_law 331 = .ok (.iaload, 1) := by decide +kernel
theorem dL_law_332 : decode cL_law 332 = .ok (.aload_n 0, 1) := by decide +kernel
theorem dL_law_333 : decode cL_law 333 = .ok (.iload_n 3, 1) := by decide +kernel
theorem dL_law_334 : decode cL_law 334 = .ok (.iconst 3, 1) := by decide +kernel
theorem dL_law_335 : decode cL_law 335 = .ok (.iadd, 1) := by decide +kernel
theorem dL_law_336 : decode cL_law 336 = .ok (.iaload, 1) := by decide +kernel
theorem dL_law_337 : decode cL_law 337 = .ok (.invokevirtual 27, 3) := by decide +kernel
theorem dL_law_340 : decode cL_law 340 = .ok (.if_icmp .eq 913, 3) := by decide +kernel
theorem dL_law_343 : decode cL_law 343 = .ok (.iconst 0, 1) := by decide +kernel
theorem dL_law_344 : decode cL_law 344 = .ok (.ireturn, 1) := by decide +kernel
theorem dL_law_345 : decode cL_law 345 = .ok (.aload_n 1, 1) := by decide +kernel
theorem dL_law_346 : decode cL_law 346 = .ok (.aload_n 0, 1) := by decide +kernel
theorem dL_law_347 : decode cL_law 347 = .ok (.iload_n 3, 1) := by decide +kernel
theorem dL_law_348 : decode cL_law 348 = .ok (.iconst 1, 1) := by decide +kernel
theorem dL_law_349 : decode cL_law 349 = .ok (.iadd, 1) := by decide +kernel
theorem dL_law_350 : decode cL_law 350 = .ok (.iaload, 1) := by decide +kernel
theorem dL_law_351 : decode cL_law 351 = .ok (.aload_n 0, 1) := by decide +kernel
theorem dL_law_352 : decode cL_law 352 = .ok (.iload_n 3, 1) := by decide +kernel
theorem dL_law_353 : decode cL_law 353 = .ok (.iconst 2, 1) := by decide +kernel
theorem dL_law_354 : decode cL_law 354 = .ok (.iadd, 1) := by decide +kernel
theorem dL_law_355 : decode cL_law 355 = .ok (.iaload, 1) := by decide +kernel
theorem dL_law_356 : decode cL_law 356 = .ok (.invokevirtual 28, 3) := by decide +kernel
theorem dL_law_359 : decode cL_law 359 = .ok (.aload_n 2, 1) := by decide +kernel
theorem dL_law_360 : decode cL_law 360 = .ok (.aload_n 0, 1) := by decide +kernel
theorem dL_law_361 : decode cL_law 361 = .ok (.iload_n 3, 1) := by decide +kernel
theorem dL_law_362 : decode cL_law 362 = .ok (.iconst 1, 1) := by decide +kernel
theorem dL_law_363 : decode cL_law 363 = .ok (.iadd, 1) := by decide +kernel
theorem dL_law_364 : decode cL_law 364 = .ok (.iaload, 1) := by decide +kernel
theorem dL_law_365 : decode cL_law 365 = .ok (.aload_n 0, 1) := by decide +kernel
theorem dL_law_366 : decode cL_law 366 = .ok (.iload_n 3, 1) := by decide +kernel
theorem dL_law_367 : decode cL_law 367 = .ok (.iconst 2, 1) := by decide +kernel
theorem dL_law_368 : decode cL_law 368 = .ok (.iadd, 1) := by decide +kernel
theorem dL_law_369 : decode cL_law 369 = .ok (.iaload, 1) := by decide +kernel
theorem dL_law_370 : decode cL_law 370 = .ok (.invokevirtual 31, 3) := by decide +kernel
theorem dL_law_373 : decode cL_law 373 = .ok (.if_icmp .eq 880, 3) := by decide +kernel
theorem dL_law_376 : decode cL_law 376 = .ok (.iconst 0, 1) := by decide +kernel
theorem dL_law_377 : decode cL_law 377 = .ok (.ireturn, 1) := by decide +kernel
theorem dL_law_378 : decode cL_law 378 = .ok (.aload_n 1, 1) := by decide +kernel
theorem dL_law_379 : decode cL_law 379 = .ok (.aload_n 0, 1) := by decide +kernel
theorem dL_law_380 : decode cL_law 380 = .ok (.iload_n 3, 1) := by decide +kernel
theorem dL_law_381 : decode cL_law 381 = .ok (.iconst 1, 1) := by decide +kernel
theorem dL_law_382 : decode cL_law 382 = .ok (.iadd, 1) := by decide +kernel
theorem dL_law_383 : decode cL_law 383 = .ok (.iaload, 1) := by decide +kernel
theorem dL_law_384 : decode cL_law 384 = .ok (.aload_n 0, 1) := by decide +kernel
theorem dL_law_385 : decode cL_law 385 = .ok (.iload_n 3, 1) := by decide +kernel
theorem dL_law_386 : decode cL_law 386 = .ok (.iconst 2, 1) := by decide +kernel
theorem dL_law_387 : decode cL_law 387 = .ok (.iadd, 1) := by decide +kernel
theorem dL_law_388 : decode cL_law 388 = .ok (.iaload, 1) := by decide +kernel
theorem dL_law_389 : decode cL_law 389 = .ok (.aload_n 0, 1) := by decide +kernel
theorem dL_law_390 : decode cL_law 390 = .ok (.iload_n 3, 1) := by decide +kernel
theorem dL_law_391 : decode cL_law 391 = .ok (.iconst 3, 1) := by decide +kernel
theorem dL_law_392 : decode cL_law 392 = .ok (.iadd, 1) := by decide +kernel
theorem dL_law_393 : decode cL_law 393 = .ok (.iaload, 1) := by decide +kernel
theorem dL_law_394 : decode cL_law 394 = .ok (.aload_n 0, 1) := by decide +kernel
theorem dL_law_395 : decode cL_law 395 = .ok (.iload_n 3, 1) := by decide +kernel
theorem dL_law_396 : decode cL_law 396 = .ok (.iconst 4, 1) := by decide +kernel
theorem dL_law_397 : decode cL_law 397 = .ok (.iadd, 1) := by decide +kernel
theorem dL_law_398 : decode cL_law 398 = .ok (.iaload, 1) := by decide +kernel
theorem dL_law_399 : decode cL_law 399 = .ok (.aload_n 0, 1) := by decide +kernel
theorem dL_law_400 : decode cL_law 400 = .ok (.iload_n 3, 1) := by decide +kernel
theorem dL_law_401 : decode cL_law 401 = .ok (.iconst 5, 1) := by decide +kernel
theorem dL_law_402 : decode cL_law 402 = .ok (.iadd, 1) := by decide +kernel
theorem dL_law_403 : decode cL_law 403 = .ok (.iaload, 1) := by decide +kernel
theorem dL_law_404 : decode cL_law 404 = .ok (.invokevirtual 32, 3) := by decide +kernel
theorem dL_law_407 : decode cL_law 407 = .ok (.aload_n 2, 1) := by decide +kernel
theorem dL_law_408 : decode cL_law 408 = .ok (.aload_n 0, 1) := by decide +kernel
theorem dL_law_409 : decode cL_law 409 = .ok (.iload_n 3, 1) := by decide +kernel
theorem dL_law_410 : decode cL_law 410 = .ok (.iconst 1, 1) := by decide +kernel
theorem dL_law_411 : decode cL_law 411 = .ok (.iadd, 1) := by decide +kernel
theorem dL_law_412 : decode cL_law 412 = .ok (.iaload, 1) := by decide +kernel
theorem dL_law_413 : decode cL_law 413 = .ok (.aload_n 0, 1) := by decide +kernel
theorem dL_law_414 : decode cL_law 414 = .ok (.iload_n 3, 1) := by decide +kernel
theorem dL_law_415 : decode cL_law 415 = .ok (.iconst 2, 1) := by decide +kernel
theorem dL_law_416 : decode cL_law 416 = .ok (.iadd, 1) := by decide +kernel
theorem dL_law_417 : decode cL_law 417 = .ok (.iaload, 1) := by decide +kernel
theorem dL_law_418 : decode cL_law 418 = .ok (.aload_n 0, 1) := by decide +kernel
theorem dL_law_419 : decode cL_law 419 = .ok (.iload_n 3, 1) := by decide +kernel
theorem dL_law_420 : decode cL_law 420 = .ok (.iconst 3, 1) := by decide +kernel
theorem dL_law_421 : decode cL_law 421 = .ok (.iadd, 1) := by decide +kernel
theorem dL_law_422 : decode cL_law 422 = .ok (.iaload, 1) := by decide +kernel
theorem dL_law_423 : decode cL_law 423 = .ok (.aload_n 0, 1) := by decide +kernel
theorem dL_law_424 : decode cL_law 424 = .ok (.iload_n 3, 1) := by decide +kernel
theorem dL_law_425 : decode cL_law 425 = .ok (.iconst 4, 1) := by decide +kernel
theorem dL_law_426 : decode cL_law 426 = .ok (.iadd, 1) := by decide +kernel
theorem dL_law_427 : decode cL_law 427 = .ok (.iaload, 1) := by decide +kernel
theorem dL_law_428 : decode cL_law 428 = .ok (.aload_n 0, 1) := by decide +kernel
theorem dL_law_429 : decode cL_law 429 = .ok (.iload_n 3, 1) := by decide +kernel
theorem dL_law_430 : decode cL_law 430 = .ok (.iconst 5, 1) := by decide +kernel
theorem dL_law_431 : decode cL_law 431 = .ok (.iadd, 1) := by decide +kernel
theorem dL_law_432 : decode cL_law 432 = .ok (.iaload, 1) := by decide +kernel
theorem dL_law_433 : decode cL_law 433 = .ok (.invokevirtual 36, 3) := by decide +kernel
theorem dL_law_436 : decode cL_law 436 = .ok (.if_icmp .eq 817, 3) := by decide +kernel
theorem dL_law_439 : decode cL_law 439 = .ok (.iconst 0, 1) := by decide +kernel
theorem dL_law_440 : decode cL_law 440 = .ok (.ireturn, 1) := by decide +kernel
theorem dL_law_441 : decode cL_law 441 = .ok (.aload_n 1, 1) := by decide +kernel
theorem dL_law_442 : decode cL_law 442 = .ok (.aload_n 0, 1) := by decide +kernel
theorem dL_law_443 : decode cL_law 443 = .ok (.iload_n 3, 1) := by decide +kernel
theorem dL_law_444 : decode cL_law 444 = .ok (.iconst 1, 1) := by decide +kernel
theorem dL_law_445 : decode cL_law 445 = .ok (.iadd, 1) := by decide +kernel
theorem dL_law_446 : decode cL_law 446 = .ok (.iaload, 1) := by decide +kernel
theorem dL_law_447 : decode cL_law 447 = .ok (.invokevirtual 37, 3) := by decide +kernel
theorem dL_law_450 : decode cL_law 450 = .ok (.aload_n 2, 1) := by decide +kernel
theorem dL_law_451 : decode cL_law 451 = .ok (.aload_n 0, 1) := by decide +kernel
theorem dL_law_452 : decode cL_law 452 = .ok (.iload_n 3, 1) := by decide +kernel
theorem dL_law_453 : decode cL_law 453 = .ok (.iconst 1, 1) := by decide +kernel
theorem dL_law_454 : decode cL_law 454 = .ok (.iadd, 1) := by decide +kernel
theorem dL_law_455 : decode cL_law 455 = .ok (.iaload, 1) := by decide +kernel
theorem dL_law_456 : decode cL_law 456 = .ok (.invokevirtual 41, 3) := by decide +kernel
theorem dL_law_459 : decode cL_law 459 = .ok (.if_icmp .eq 794, 3) := by decide +kernel
theorem dL_law_462 : decode cL_law 462 = .ok (.iconst 0, 1) := by decide +kernel
theorem dL_law_463 : decode cL_law 463 = .ok (.ireturn, 1) := by decide +kernel
theorem dL_law_464 : decode cL_law 464 = .ok (.aload_n 1, 1) := by decide +kernel
theorem dL_law_465 : decode cL_law 465 = .ok (.invokevirtual 42, 3) := by decide +kernel
theorem dL_law_468 : decode cL_law 468 = .ok (.aload_n 2, 1) := by decide +kernel
theorem dL_law_469 : decode cL_law 469 = .ok (.invokevirtual 46, 3) := by decide +kernel
theorem dL_law_472 : decode cL_law 472 = .ok (.if_icmp .eq 781, 3) := by decide +kernel
theorem dL_law_475 : decode cL_law 475 = .ok (.iconst 0, 1) := by decide +kernel
theorem dL_law_476 : decode cL_law 476 = .ok (.ireturn, 1) := by decide +kernel
theorem dL_law_477 : decode cL_law 477 = .ok (.aload_n 1, 1) := by decide +kernel
theorem dL_law_478 : decode cL_law 478 = .ok (.invokevirtual 47, 3) := by decide +kernel
theorem dL_law_481 : decode cL_law 481 = .ok (.aload_n 2, 1) := by decide +kernel
theorem dL_law_482 : decode cL_law 482 = .ok (.invokevirtual 50, 3) := by decide +kernel
theorem dL_law_485 : decode cL_law 485 = .ok (.if_icmp .eq 768, 3) := by decide +kernel
theorem dL_law_488 : decode cL_law 488 = .ok (.iconst 0, 1) := by decide +kernel
theorem dL_law_489 : decode cL_law 489 = .ok (.ireturn, 1) := by decide +kernel
theorem dL_law_490 : decode cL_law 490 = .ok (.aload_n 1, 1) := by decide +kernel
theorem dL_law_491 : decode cL_law 491 = .ok (.invokevirtual 51, 3) := by decide +kernel
theorem dL_law_494 : decode cL_law 494 = .ok (.aload_n 2, 1) := by decide +kernel
theorem dL_law_495 : decode cL_law 495 = .ok (.invokevirtual 54, 3) := by decide +kernel
theorem dL_law_498 : decode cL_law 498 = .ok (.if_icmp .eq 755, 3) := by decide +kernel
theorem dL_law_501 : decode cL_law 501 = .ok (.iconst 0, 1) := by decide +kernel
theorem dL_law_502 : decode cL_law 502 = .ok (.ireturn, 1) := by decide +kernel
theorem dL_law_503 : decode cL_law 503 = .ok (.aload_n 1, 1) := by decide +kernel
theorem dL_law_504 : decode cL_law 504 = .ok (.invokevirtual 55, 3) := by decide +kernel
theorem dL_law_507 : decode cL_law 507 = .ok (.aload_n 2, 1) := by decide +kernel
theorem dL_law_508 : decode cL_law 508 = .ok (.invokevirtual 58, 3) := by decide +kernel
theorem dL_law_511 : decode cL_law 511 = .ok (.if_icmp .eq 742, 3) := by decide +kernel
theorem dL_law_514 : decode cL_law 514 = .ok (.iconst 0, 1) := by decide +kernel
theorem dL_law_515 : decode cL_law 515 = .ok (.ireturn, 1) := by decide +kernel
theorem dL_law_516 : decode cL_law 516 = .ok (.aload_n 1, 1) := by decide +kernel
theorem dL_law_517 : decode cL_law 517 = .ok (.invokevirtual 59, 3) := by decide +kernel
theorem dL_law_520 : decode cL_law 520 = .ok (.aload_n 2, 1) := by decide +kernel
theorem dL_law_521 : decode cL_law 521 = .ok (.invokevirtual 62, 3) := by decide +kernel
theorem dL_law_524 : decode cL_law 524 = .ok (.if_icmp .eq 729, 3) := by decide +kernel
theorem dL_law_527 : decode cL_law 527 = .ok (.iconst 0, 1) := by decide +kernel
theorem dL_law_528 : decode cL_law 528 = .ok (.ireturn, 1) := by decide +kernel
theorem dL_law_529 : decode cL_law 529 = .ok (.aload_n 1, 1) := by decide +kernel
theorem dL_law_530 : decode cL_law 530 = .ok (.invokevirtual 63, 3) := by decide +kernel
theorem dL_law_533 : decode cL_law 533 = .ok (.aload_n 2, 1) := by decide +kernel
theorem dL_law_534 : decode cL_law 534 = .ok (.invokevirtual 66, 3) := by decide +kernel
theorem dL_law_537 : decode cL_law 537 = .ok (.if_icmp .eq 716, 3) := by decide +kernel
theorem dL_law_540 : decode cL_law 540 = .ok (.iconst 0, 1) := by decide +kernel
theorem dL_law_541 : decode cL_law 541 = .ok (.ireturn, 1) := by decide +kernel
theorem dL_law_542 : decode cL_law 542 = .ok (.aload_n 1, 1) := by decide +kernel
theorem dL_law_543 : decode cL_law 543 = .ok (.aload_n 0, 1) := by decide +kernel
theorem dL_law_544 : decode cL_law 544 = .ok (.iload_n 3, 1) := by decide +kernel
theorem dL_law_545 : decode cL_law 545 = .ok (.iconst 1, 1) := by decide +kernel
theorem dL_law_546 : decode cL_law 546 = .ok (.iadd, 1) := by decide +kernel
theorem dL_law_547 : decode cL_law 547 = .ok (.iaload, 1) := by decide +kernel
theorem dL_law_548 : decode cL_law 548 = .ok (.invokevirtual 67, 3) := by decide +kernel
theorem dL_law_551 : decode cL_law 551 = .ok (.aload_n 2, 1) := by decide +kernel
theorem dL_law_552 : decode cL_law 552 = .ok (.aload_n 0, 1) := by decide +kernel
theorem dL_law_553 : decode cL_law 553 = .ok (.iload_n 3, 1) := by decide +kernel
theorem dL_law_554 : decode cL_law 554 = .ok (.iconst 1, 1) := by decide +kernel
theorem dL_law_555 : decode cL_law 555 = .ok (.iadd, 1) := by decide +kernel
theorem dL_law_556 : decode cL_law 556 = .ok (.iaload, 1) := by decide +kernel
theorem dL_law_557 : decode cL_law 557 = .ok (.invokevirtual 70, 3) := by decide +kernel
theorem dL_law_560 : decode cL_law 560 = .ok (.if_icmp .eq 693, 3) := by decide +kernel
theorem dL_law_563 : decode cL_law 563 = .ok (.iconst 0, 1) := by decide +kernel
theorem dL_law_564 : decode cL_law 564 = .ok (.ireturn, 1) := by decide +kernel
theorem dL_law_565 : decode cL_law 565 = .ok (.aload_n 1, 1) := by decide +kernel
theorem dL_law_566 : decode cL_law 566 = .ok (.aload_n 0, 1) := by decide +kernel
theorem dL_law_567 : decode cL_law 567 = .ok (.iload_n 3, 1) := by decide +kernel
theorem dL_law_568 : decode cL_law 568 = .ok (.iconst 1, 1) := by decide +kernel
theorem dL_law_569 : decode cL_law 569 = .ok (.iadd, 1) := by decide +kernel
theorem dL_law_570 : decode cL_law 570 = .ok (.iaload, 1) := by decide +kernel
theorem dL_law_571 : decode cL_law 571 = .ok (.aload_n 0, 1) := by decide +kernel
theorem dL_law_572 : decode cL_law 572 = .ok (.iload_n 3, 1) := by decide +kernel
theorem dL_law_573 : decode cL_law 573 = .ok (.iconst 2, 1) := by decide +kernel
theorem dL_law_574 : decode cL_law 574 = .ok (.iadd, 1) := by decide +kernel
theorem dL_law_575 : decode cL_law 575 = .ok (.iaload, 1) := by decide +kernel
theorem dL_law_576 : decode cL_law 576 = .ok (.invokevirtual 71, 3) := by decide +kernel
theorem dL_law_579 : decode cL_law 579 = .ok (.aload_n 2, 1) := by decide +kernel
theorem dL_law_580 : decode cL_law 580 = .ok (.aload_n 0, 1) := by decide +kernel
theorem dL_law_581 : decode cL_law 581 = .ok (.iload_n 3, 1) := by decide +kernel
theorem dL_law_582 : decode cL_law 582 = .ok (.iconst 1, 1) := by decide +kernel
theorem dL_law_583 : decode cL_law 583 = .ok (.iadd, 1) := by decide +kernel
theorem dL_law_584 : decode cL_law 584 = .ok (.iaload, 1) := by decide +kernel
theorem dL_law_585 : decode cL_law 585 = .ok (.aload_n 0, 1) := by decide +kernel
theorem dL_law_586 : decode cL_law 586 = .ok (.iload_n 3, 1) := by decide +kernel
theorem dL_law_587 : decode cL_law 587 = .ok (.iconst 2, 1) := by decide +kernel
theorem dL_law_588 : decode cL_law 588 = .ok (.iadd, 1) := by decide +kernel
theorem dL_law_589 : decode cL_law 589 = .ok (.iaload, 1) := by decide +kernel
theorem dL_law_590 : decode cL_law 590 = .ok (.invokevirtual 74, 3) := by decide +kernel
theorem dL_law_593 : decode cL_law 593 = .ok (.if_icmp .eq 660, 3) := by decide +kernel
theorem dL_law_596 : decode cL_law 596 = .ok (.iconst 0, 1) := by decide +kernel
theorem dL_law_597 : decode cL_law 597 = .ok (.ireturn, 1) := by decide +kernel
theorem dL_law_598 : decode cL_law 598 = .ok (.aload_n 1, 1) := by decide +kernel
theorem dL_law_599 : decode cL_law 599 = .ok (.aload_n 0, 1) := by decide +kernel
theorem dL_law_600 : decode cL_law 600 = .ok (.iload_n 3, 1) := by decide +kernel
theorem dL_law_601 : decode cL_law 601 = .ok (.iconst 1, 1) := by decide +kernel
theorem dL_law_602 : decode cL_law 602 = .ok (.iadd, 1) := by decide +kernel
theorem dL_law_603 : decode cL_law 603 = .ok (.iaload, 1) := by decide +kernel
theorem dL_law_604 : decode cL_law 604 = .ok (.aload_n 0, 1) := by decide +kernel
theorem dL_law_605 : decode cL_law 605 = .ok (.iload_n 3, 1) := by decide +kernel
theorem dL_law_606 : decode cL_law 606 = .ok (.iconst 2, 1) := by decide +kernel
theorem dL_law_607 : decode cL_law 607 = .ok (.iadd, 1) := by decide +kernel
theorem dL_law_608 : decode cL_law 608 = .ok (.iaload, 1) := by decide +kernel
theorem dL_law_609 : decode cL_law 609 = .ok (.invokevirtual 75, 3) := by decide +kernel
theorem dL_law_612 : decode cL_law 612 = .ok (.aload_n 2, 1) := by decide +kernel
theorem dL_law_613 : decode cL_law 613 = .ok (.aload_n 0, 1) := by decide +kernel
theorem dL_law_614 : decode cL_law 614 = .ok (.iload_n 3, 1) := by decide +kernel
theorem dL_law_615 : decode cL_law 615 = .ok (.iconst 1, 1) := by decide +kernel
theorem dL_law_616 : decode cL_law 616 = .ok (.iadd, 1) := by decide +kernel
theorem dL_law_617 : decode cL_law 617 = .ok (.iaload, 1) := by decide +kernel
theorem dL_law_618 : decode cL_law 618 = .ok (.aload_n 0, 1) := by decide +kernel
theorem dL_law_619 : decode cL_law 619 = .ok (.iload_n 3, 1) := by decide +kernel
theorem dL_law_620 : decode cL_law 620 = .ok (.iconst 2, 1) := by decide +kernel
theorem dL_law_621 : decode cL_law 621 = .ok (.iadd, 1) := by decide +kernel
theorem dL_law_622 : decode cL_law 622 = .ok (.iaload, 1) := by decide +kernel
theorem dL_law_623 : decode cL_law 623 = .ok (.invokevirtual 78, 3) := by decide +kernel
theorem dL_law_626 : decode cL_law 626 = .ok (.if_icmp .eq 627, 3) := by decide +kernel
theorem dL_law_629 : decode cL_law 629 = .ok (.iconst 0, 1) := by decide +kernel
theorem dL_law_630 : decode cL_law 630 = .ok (.ireturn, 1) := by decide +kernel
theorem dL_law_631 : decode cL_law 631 = .ok (.aload_n 1, 1) := by decide +kernel
theorem dL_law_632 : decode cL_law 632 = .ok (.aload_n 0, 1) := by decide +kernel
theorem dL_law_633 : decode cL_law 633 = .ok (.iload_n 3, 1) := by decide +kernel
theorem dL_law_634 : decode cL_law 634 = .ok (.iconst 1, 1) := by decide +kernel
theorem dL_law_635 : decode cL_law 635 = .ok (.iadd, 1) := by decide +kernel
theorem dL_law_636 : decode cL_law 636 = .ok (.iaload, 1) := by decide +kernel
theorem dL_law_637 : decode cL_law 637 = .ok (.invokevirtual 79, 3) := by decide +kernel
theorem dL_law_640 : decode cL_law 640 = .ok (.aload_n 2, 1) := by decide +kernel
theorem dL_law_641 : decode cL_law 641 = .ok (.aload_n 0, 1) := by decide +kernel
theorem dL_law_642 : decode cL_law 642 = .ok (.iload_n 3, 1) := by decide +kernel
theorem dL_law_643 : decode cL_law 643 = .ok (.iconst 1, 1) := by decide +kernel
theorem dL_law_644 : decode cL_law 644 = .ok (.iadd, 1) := by decide +kernel
theorem dL_law_645 : decode cL_law 645 = .ok (.iaload, 1) := by decide +kernel
theorem dL_law_646 : decode cL_law 646 = .ok (.invokevirtual 82, 3) := by decide +kernel
theorem dL_law_649 : decode cL_law 649 = .ok (.if_icmp .eq 604, 3) := by decide +kernel
theorem dL_law_652 : decode cL_law 652 = .ok (.iconst 0, 1) := by decide +kernel
theorem dL_law_653 : decode cL_law 653 = .ok (.ireturn, 1) := by decide +kernel
theorem dL_law_654 : decode cL_law 654 = .ok (.aload_n 1, 1) := by decide +kernel
theorem dL_law_655 : decode cL_law 655 = .ok (.invokevirtual 83, 3) := by decide +kernel
theorem dL_law_658 : decode cL_law 658 = .ok (.aload_n 2, 1) := by decide +kernel
theorem dL_law_659 : decode cL_law 659 = .ok (.invokevirtual 86, 3) := by decide +kernel
theorem dL_law_662 : decode cL_law 662 = .ok (.if_icmp .eq 591, 3) := by decide +kernel
theorem dL_law_665 : decode cL_law 665 = .ok (.iconst 0, 1) := by decide +kernel
theorem dL_law_666 : decode cL_law 666 = .ok (.ireturn, 1) := by decide +kernel
theorem dL_law_667 : decode cL_law 667 = .ok (.aload_n 1, 1) := by decide +kernel
theorem dL_law_668 : decode cL_law 668 = .ok (.invokevirtual 87, 3) := by decide +kernel
theorem dL_law_671 : decode cL_law 671 = .ok (.aload_n 2, 1) := by decide +kernel
theorem dL_law_672 : decode cL_law 672 = .ok (.invokevirtual 90, 3) := by decide +kernel
theorem dL_law_675 : decode cL_law 675 = .ok (.if_icmp .eq 578, 3) := by decide +kernel
theorem dL_law_678 : decode cL_law 678 = .ok (.iconst 0, 1) := by decide +kernel
theorem dL_law_679 : decode cL_law 679 = .ok (.ireturn, 1) := by decide +kernel
theorem dL_law_680 : decode cL_law 680 = .ok (.aload_n 1, 1) := by decide +kernel
theorem dL_law_681 : decode cL_law 681 = .ok (.aload_n 0, 1) := by decide +kernel
theorem dL_law_682 : decode cL_law 682 = .ok (.iload_n 3, 1) := by decide +kernel
theorem dL_law_683 : decode cL_law 683 = .ok (.iconst 1, 1) := by decide +kernel
theorem dL_law_684 : decode cL_law 684 = .ok (.iadd, 1) := by decide +kernel
theorem dL_law_685 : decode cL_law 685 = .ok (.iaload, 1) := by decide +kernel
theorem dL_law_686 : decode cL_law 686 = .ok (.invokevirtual 91, 3) := by decide +kernel
theorem dL_law_689 : decode cL_law 689 = .ok (.aload_n 2, 1) := by decide +kernel
theorem dL_law_690 : decode cL_law 690 = .ok (.aload_n 0, 1) := by decide +kernel
theorem dL_law_691 : decode cL_law 691 = .ok (.iload_n 3, 1) := by decide +kernel
theorem dL_law_692 : decode cL_law 692 = .ok (.iconst 1, 1) := by decide +kernel
theorem dL_law_693 : decode cL_law 693 = .ok (.iadd, 1) := by decide +kernel
theorem dL_law_694 : decode cL_law 694 = .ok (.iaload, 1) := by decide +kernel
theorem dL_law_695 : decode cL_law 695 = .ok (.invokevirtual 94, 3) := by decide +kernel
theorem dL_law_698 : decode cL_law 698 = .ok (.if_icmp .eq 555, 3) := by decide +kernel
theorem dL_law_701 : decode cL_law 701 = .ok (.iconst 0, 1) := by decide +kernel
theorem dL_law_702 : decode cL_law 702 = .ok (.ireturn, 1) := by decide +kernel
theorem dL_law_703 : decode cL_law 703 = .ok (.aload_n 1, 1) := by decide +kernel
theorem dL_law_704 : decode cL_law 704 = .ok (.invokevirtual 95, 3) := by decide +kernel
theorem dL_law_707 : decode cL_law 707 = .ok (.aload_n 2, 1) := by decide +kernel
theorem dL_law_708 : decode cL_law 708 = .ok (.invokevirtual 98, 3) := by decide +kernel
theorem dL_law_711 : decode cL_law 711 = .ok (.if_icmp .eq 542, 3) := by decide +kernel
theorem dL_law_714 : decode cL_law 714 = .ok (.iconst 0, 1) := by decide +kernel
theorem dL_law_715 : decode cL_law 715 = .ok (.ireturn, 1) := by decide +kernel
theorem dL_law_716 : decode cL_law 716 = .ok (.aload_n 1, 1) := by decide +kernel
theorem dL_law_717 : decode cL_law 717 = .ok (.aload_n 0, 1) := by decide +kernel
theorem dL_law_718 : decode cL_law 718 = .ok (.iload_n 3, 1) := by decide +kernel
theorem dL_law_719 : decode cL_law 719 = .ok (.iconst 1, 1) := by decide +kernel
theorem dL_law_720 : decode cL_law 720 = .ok (.iadd, 1) := by decide +kernel
theorem dL_law_721 : decode cL_law 721 = .ok (.iaload, 1) := by decide +kernel
theorem dL_law_722 : decode cL_law 722 = .ok (.invokevirtual 99, 3) := by decide +kernel
theorem dL_law_725 : decode cL_law 725 = .ok (.aload_n 2, 1) := by decide +kernel
theorem dL_law_726 : decode cL_law 726 = .ok (.aload_n 0, 1) := by decide +kernel
theorem dL_law_727 : decode cL_law 727 = .ok (.iload_n 3, 1) := by decide +kernel
theorem dL_law_728 : decode cL_law 728 = .ok (.iconst 1, 1) := by decide +kernel
theorem dL_law_729 : decode cL_law 729 = .ok (.iadd, 1) := by decide +kernel
theorem dL_law_730 : decode cL_law 730 = .ok (.iaload, 1) := by decide +kernel
theorem dL_law_731 : decode cL_law 731 = .ok (.invokevirtual 102, 3) := by decide +kernel
theorem dL_law_734 : decode cL_law 734 = .ok (.if_icmp .eq 519, 3) := by decide +kernel
theorem dL_law_737 : decode cL_law 737 = .ok (.iconst 0, 1) := by decide +kernel
theorem dL_law_738 : decode cL_law 738 = .ok (.ireturn, 1) := by decide +kernel
theorem dL_law_739 : decode cL_law 739 = .ok (.aload_n 1, 1) := by decide +kernel
theorem dL_law_740 : decode cL_law 740 = .ok (.aload_n 0, 1) := by decide +kernel
theorem dL_law_741 : decode cL_law 741 = .ok (.iload_n 3, 1) := by decide +kernel
theorem dL_law_742 : decode cL_law 742 = .ok (.iconst 1, 1) := by decide +kernel
theorem dL_law_743 : decode cL_law 743 = .ok (.iadd, 1) := by decide +kernel
theorem dL_law_744 : decode cL_law 744 = .ok (.iaload, 1) := by decide +kernel
theorem dL_law_745 : decode cL_law 745 = .ok (.invokevirtual 103, 3) := by decide +kernel
theorem dL_law_748 : decode cL_law 748 = .ok (.aload_n 2, 1) := by decide +kernel
theorem dL_law_749 : decode cL_law 749 = .ok (.aload_n 0, 1) := by decide +kernel
theorem dL_law_750 : decode cL_law 750 = .ok (.iload_n 3, 1) := by decide +kernel
theorem dL_law_751 : decode cL_law 751 = .ok (.iconst 1, 1) := by decide +kernel
theorem dL_law_752 : decode cL_law 752 = .ok (.iadd, 1) := by decide +kernel
theorem dL_law_753 : decode cL_law 753 = .ok (.iaload, 1) := by decide +kernel
theorem dL_law_754 : decode cL_law 754 = .ok (.invokevirtual 106, 3) := by decide +kernel
theorem dL_law_757 : decode cL_law 757 = .ok (.if_icmp .eq 496, 3) := by decide +kernel
theorem dL_law_760 : decode cL_law 760 = .ok (.iconst 0, 1) := by decide +kernel
theorem dL_law_761 : decode cL_law 761 = .ok (.ireturn, 1) := by decide +kernel
theorem dL_law_762 : decode cL_law 762 = .ok (.aload_n 1, 1) := by decide +kernel
theorem dL_law_763 : decode cL_law 763 = .ok (.aload_n 0, 1) := by decide +kernel
theorem dL_law_764 : decode cL_law 764 = .ok (.iload_n 3, 1) := by decide +kernel
theorem dL_law_765 : decode cL_law 765 = .ok (.iconst 1, 1) := by decide +kernel
theorem dL_law_766 : decode cL_law 766 = .ok (.iadd, 1) := by decide +kernel
theorem dL_law_767 : decode cL_law 767 = .ok (.iaload, 1) := by decide +kernel
theorem dL_law_768 : decode cL_law 768 = .ok (.invokevirtual 107, 3) := by decide +kernel
theorem dL_law_771 : decode cL_law 771 = .ok (.aload_n 2, 1) := by decide +kernel
theorem dL_law_772 : decode cL_law 772 = .ok (.aload_n 0, 1) := by decide +kernel
theorem dL_law_773 : decode cL_law 773 = .ok (.iload_n 3, 1) := by decide +kernel
theorem dL_law_774 : decode cL_law 774 = .ok (.iconst 1, 1) := by decide +kernel
theorem dL_law_775 : decode cL_law 775 = .ok (.iadd, 1) := by decide +kernel
theorem dL_law_776 : decode cL_law 776 = .ok (.iaload, 1) := by decide +kernel
theorem dL_law_777 : decode cL_law 777 = .ok (.invokevirtual 110, 3) := by decide +kernel
theorem dL_law_780 : decode cL_law 780 = .ok (.if_icmp .eq 473, 3) := by decide +kernel
theorem dL_law_783 : decode cL_law 783 = .ok (.iconst 0, 1) := by decide +kernel
theorem dL_law_784 : decode cL_law 784 = .ok (.ireturn, 1) := by decide +kernel
theorem dL_law_785 : decode cL_law 785 = .ok (.aload_n 1, 1) := by decide +kernel
theorem dL_law_786 : decode cL_law 786 = .ok (.aload_n 0, 1) := by decide +kernel
theorem dL_law_787 : decode cL_law 787 = .ok (.iload_n 3, 1) := by decide +kernel
theorem dL_law_788 : decode cL_law 788 = .ok (.iconst 1, 1) := by decide +kernel
theorem dL_law_789 : decode cL_law 789 = .ok (.iadd, 1) := by decide +kernel
theorem dL_law_790 : decode cL_law 790 = .ok (.iaload, 1) := by decide +kernel
theorem dL_law_791 : decode cL_law 791 = .ok (.invokevirtual 111, 3) := by decide +kernel
theorem dL_law_794 : decode cL_law 794 = .ok (.aload_n 2, 1) := by decide +kernel
theorem dL_law_795 : decode cL_law 795 = .ok (.aload_n 0, 1) := by decide +kernel
theorem dL_law_796 : decode cL_law 796 = .ok (.iload_n 3, 1) := by decide +kernel
theorem dL_law_797 : decode cL_law 797 = .ok (.iconst 1, 1) := by decide +kernel
theorem dL_law_798 : decode cL_law 798 = .ok (.iadd, 1) := by decide +kernel
theorem dL_law_799 : decode cL_law 799 = .ok (.iaload, 1) := by decide +kernel
theorem dL_law_800 : decode cL_law 800 = .ok (.invokevirtual 114, 3) := by decide +kernel
theorem dL_law_803 : decode cL_law 803 = .ok (.if_icmp .eq 450, 3) := by decide +kernel
theorem dL_law_806 : decode cL_law 806 = .ok (.iconst 0, 1) := by decide +kernel
theorem dL_law_807 : decode cL_law 807 = .ok (.ireturn, 1) := by decide +kernel
theorem dL_law_808 : decode cL_law 808 = .ok (.aload_n 1, 1) := by decide +kernel
theorem dL_law_809 : decode cL_law 809 = .ok (.aload_n 0, 1) := by decide +kernel
theorem dL_law_810 : decode cL_law 810 = .ok (.iload_n 3, 1) := by decide +kernel
theorem dL_law_811 : decode cL_law 811 = .ok (.iconst 1, 1) := by decide +kernel
theorem dL_law_812 : decode cL_law 812 = .ok (.iadd, 1) := by decide +kernel
theorem dL_law_813 : decode cL_law 813 = .ok (.iaload, 1) := by decide +kernel
theorem dL_law_814 : decode cL_law 814 = .ok (.invokevirtual 115, 3) := by decide +kernel
theorem dL_law_817 : decode cL_law 817 = .ok (.aload_n 2, 1) := by decide +kernel
theorem dL_law_818 : decode cL_law 818 = .ok (.aload_n 0, 1) := by decide +kernel
theorem dL_law_819 : decode cL_law 819 = .ok (.iload_n 3, 1) := by decide +kernel
theorem dL_law_820 : decode cL_law 820 = .ok (.iconst 1, 1) := by decide +kernel
theorem dL_law_821 : decode cL_law 821 = .ok (.iadd, 1) := by decide +kernel
theorem dL_law_822 : decode cL_law 822 = .ok (.iaload, 1) := by decide +kernel
theorem dL_law_823 : decode cL_law 823 = .ok (.invokevirtual 118, 3) := by decide +kernel
theorem dL_law_826 : decode cL_law 826 = .ok (.if_icmp .eq 427, 3) := by decide +kernel
theorem dL_law_829 : decode cL_law 829 = .ok (.iconst 0, 1) := by decide +kernel
theorem dL_law_830 : decode cL_law 830 = .ok (.ireturn, 1) := by decide +kernel
theorem dL_law_831 : decode cL_law 831 = .ok (.aload_n 1, 1) := by decide +kernel
theorem dL_law_832 : decode cL_law 832 = .ok (.aload_n 0, 1) := by decide +kernel
theorem dL_law_833 : decode cL_law 833 = .ok (.iload_n 3, 1) := by decide +kernel
theorem dL_law_834 : decode cL_law 834 = .ok (.iconst 1, 1) := by decide +kernel
theorem dL_law_835 : decode cL_law 835 = .ok (.iadd, 1) := by decide +kernel
theorem dL_law_836 : decode cL_law 836 = .ok (.iaload, 1) := by decide +kernel
theorem dL_law_837 : decode cL_law 837 = .ok (.aload_n 0, 1) := by decide +kernel
theorem dL_law_838 : decode cL_law 838 = .ok (.iload_n 3, 1) := by decide +kernel
theorem dL_law_839 : decode cL_law 839 = .ok (.iconst 2, 1) := by decide +kernel
theorem dL_law_840 : decode cL_law 840 = .ok (.iadd, 1) := by decide +kernel
theorem dL_law_841 : decode cL_law 841 = .ok (.iaload, 1) := by decide +kernel
theorem dL_law_842 : decode cL_law 842 = .ok (.invokevirtual 119, 3) := by decide +kernel
theorem dL_law_845 : decode cL_law 845 = .ok (.aload_n 2, 1) := by decide +kernel
theorem dL_law_846 : decode cL_law 846 = .ok (.aload_n 0, 1) := by decide +kernel
theorem dL_law_847 : decode cL_law 847 = .ok (.iload_n 3, 1) := by decide +kernel
theorem dL_law_848 : decode cL_law 848 = .ok (.iconst 1, 1) := by decide +kernel
theorem dL_law_849 : decode cL_law 849 = .ok (.iadd, 1) := by decide +kernel
theorem dL_law_850 : decode cL_law 850 = .ok (.iaload, 1) := by decide +kernel
theorem dL_law_851 : decode cL_law 851 = .ok (.aload_n 0, 1) := by decide +kernel
theorem dL_law_852 : decode cL_law 852 = .ok (.iload_n 3, 1) := by decide +kernel
theorem dL_law_853 : decode cL_law 853 = .ok (.iconst 2, 1) := by decide +kernel
theorem dL_law_854 : decode cL_law 854 = .ok (.iadd, 1) := by decide +kernel
theorem dL_law_855 : decode cL_law 855 = .ok (.iaload, 1) := by decide +kernel
theorem dL_law_856 : decode cL_law 856 = .ok (.invokevirtual 122, 3) := by decide +kernel
theorem dL_law_859 : decode cL_law 859 = .ok (.if_icmp .eq 394, 3) := by decide +kernel
theorem dL_law_862 : decode cL_law 862 = .ok (.iconst 0, 1) := by decide +kernel
theorem dL_law_863 : decode cL_law 863 = .ok (.ireturn, 1) := by decide +kernel
theorem dL_law_864 : decode cL_law 864 = .ok (.aload_n 1, 1) := by decide +kernel
theorem dL_law_865 : decode cL_law 865 = .ok (.aload_n 0, 1) := by decide +kernel
theorem dL_law_866 : decode cL_law 866 = .ok (.iload_n 3, 1) := by decide +kernel
theorem dL_law_867 : decode cL_law 867 = .ok (.iconst 1, 1) := by decide +kernel
theorem dL_law_868 : decode cL_law 868 = .ok (.iadd, 1) := by decide +kernel
theorem dL_law_869 : decode cL_law 869 = .ok (.iaload, 1) := by decide +kernel
theorem dL_law_870 : decode cL_law 870 = .ok (.aload_n 0, 1) := by decide +kernel
theorem dL_law_871 : decode cL_law 871 = .ok (.iload_n 3, 1) := by decide +kernel
theorem dL_law_872 : decode cL_law 872 = .ok (.iconst 2, 1) := by decide +kernel
theorem dL_law_873 : decode cL_law 873 = .ok (.iadd, 1) := by decide +kernel
theorem dL_law_874 : decode cL_law 874 = .ok (.iaload, 1) := by decide +kernel
theorem dL_law_875 : decode cL_law 875 = .ok (.invokevirtual 123, 3) := by decide +kernel
theorem dL_law_878 : decode cL_law 878 = .ok (.aload_n 2, 1) := by decide +kernel
theorem dL_law_879 : decode cL_law 879 = .ok (.aload_n 0, 1) := by decide +kernel
theorem dL_law_880 : decode cL_law 880 = .ok (.iload_n 3, 1) := by decide +kernel
theorem dL_law_881 : decode cL_law 881 = .ok (.iconst 1, 1) := by decide +kernel
theorem dL_law_882 : decode cL_law 882 = .ok (.iadd, 1) := by decide +kernel
theorem dL_law_883 : decode cL_law 883 = .ok (.iaload, 1) := by decide +kernel
theorem dL_law_884 : decode cL_law 884 = .ok (.aload_n 0, 1) := by decide +kernel
theorem dL_law_885 : decode cL_law 885 = .ok (.iload_n 3, 1) := by decide +kernel
theorem dL_law_886 : decode cL_law 886 = .ok (.iconst 2, 1) := by decide +kernel
theorem dL_law_887 : decode cL_law 887 = .ok (.iadd, 1) := by decide +kernel
theorem dL_law_888 : decode cL_law 888 = .ok (.iaload, 1) := by decide +kernel
theorem dL_law_889 : decode cL_law 889 = .ok (.invokevirtual 126, 3) := by decide +kernel
theorem dL_law_892 : decode cL_law 892 = .ok (.if_icmp .eq 361, 3) := by decide +kernel
theorem dL_law_895 : decode cL_law 895 = .ok (.iconst 0, 1) := by decide +kernel
theorem dL_law_896 : decode cL_law 896 = .ok (.ireturn, 1) := by decide +kernel
theorem dL_law_897 : decode cL_law 897 = .ok (.aload_n 1, 1) := by decide +kernel
theorem dL_law_898 : decode cL_law 898 = .ok (.aload_n 0, 1) := by decide +kernel
theorem dL_law_899 : decode cL_law 899 = .ok (.iload_n 3, 1) := by decide +kernel
theorem dL_law_900 : decode cL_law 900 = .ok (.iconst 1, 1) := by decide +kernel
theorem dL_law_901 : decode cL_law 901 = .ok (.iadd, 1) := by decide +kernel
theorem dL_law_902 : decode cL_law 902 = .ok (.iaload, 1) := by decide +kernel
theorem dL_law_903 : decode cL_law 903 = .ok (.invokevirtual 127, 3) := by decide +kernel
theorem dL_law_906 : decode cL_law 906 = .ok (.aload_n 2, 1) := by decide +kernel
theorem dL_law_907 : decode cL_law 907 = .ok (.aload_n 0, 1) := by decide +kernel
theorem dL_law_908 : decode cL_law 908 = .ok (.iload_n 3, 1) := by decide +kernel
theorem dL_law_909 : decode cL_law 909 = .ok (.iconst 1, 1) := by decide +kernel
theorem dL_law_910 : decode cL_law 910 = .ok (.iadd, 1) := by decide +kernel
theorem dL_law_911 : decode cL_law 911 = .ok (.iaload, 1) := by decide +kernel
theorem dL_law_912 : decode cL_law 912 = .ok (.invokevirtual 130, 3) := by decide +kernel
theorem dL_law_915 : decode cL_law 915 = .ok (.if_icmp .eq 338, 3) := by decide +kernel
theorem dL_law_918 : decode cL_law 918 = .ok (.iconst 0, 1) := by decide +kernel
theorem dL_law_919 : decode cL_law 919 = .ok (.ireturn, 1) := by decide +kernel
theorem dL_law_920 : decode cL_law 920 = .ok (.aload_n 1, 1) := by decide +kernel
theorem dL_law_921 : decode cL_law 921 = .ok (.aload_n 0, 1) := by decide +kernel
theorem dL_law_922 : decode cL_law 922 = .ok (.iload_n 3, 1) := by decide +kernel
theorem dL_law_923 : decode cL_law 923 = .ok (.iconst 1, 1) := by decide +kernel
theorem dL_law_924 : decode cL_law 924 = .ok (.iadd, 1) := by decide +kernel
theorem dL_law_925 : decode cL_law 925 = .ok (.iaload, 1) := by decide +kernel
theorem dL_law_926 : decode cL_law 926 = .ok (.aload_n 0, 1) := by decide +kernel
theorem dL_law_927 : decode cL_law 927 = .ok (.iload_n 3, 1) := by decide +kernel
theorem dL_law_928 : decode cL_law 928 = .ok (.iconst 2, 1) := by decide +kernel
theorem dL_law_929 : decode cL_law 929 = .ok (.iadd, 1) := by decide +kernel
theorem dL_law_930 : decode cL_law 930 = .ok (.iaload, 1) := by decide +kernel
theorem dL_law_931 : decode cL_law 931 = .ok (.invokevirtual 131, 3) := by decide +kernel
theorem dL_law_934 : decode cL_law 934 = .ok (.aload_n 2, 1) := by decide +kernel
theorem dL_law_935 : decode cL_law 935 = .ok (.aload_n 0, 1) := by decide +kernel
theorem dL_law_936 : decode cL_law 936 = .ok (.iload_n 3, 1) := by decide +kernel
theorem dL_law_937 : decode cL_law 937 = .ok (.iconst 1, 1) := by decide +kernel
theorem dL_law_938 : decode cL_law 938 = .ok (.iadd, 1) := by decide +kernel
theorem dL_law_939 : decode cL_law 939 = .ok (.iaload, 1) := by decide +kernel
theorem dL_law_940 : decode cL_law 940 = .ok (.aload_n 0, 1) := by decide +kernel
theorem dL_law_941 : decode cL_law 941 = .ok (.iload_n 3, 1) := by decide +kernel
theorem dL_law_942 : decode cL_law 942 = .ok (.iconst 2, 1) := by decide +kernel
theorem dL_law_943 : decode cL_law 943 = .ok (.iadd, 1) := by decide +kernel
theorem dL_law_944 : decode cL_law 944 = .ok (.iaload, 1) := by decide +kernel
theorem dL_law_945 : decode cL_law 945 = .ok (.invokevirtual 134, 3) := by decide +kernel
theorem dL_law_948 : decode cL_law 948 = .ok (.if_icmp .eq 305, 3) := by decide +kernel
theorem dL_law_951 : decode cL_law 951 = .ok (.iconst 0, 1) := by decide +kernel
theorem dL_law_952 : decode cL_law 952 = .ok (.ireturn, 1) := by decide +kernel
theorem dL_law_953 : decode cL_law 953 = .ok (.aload_n 1, 1) := by decide +kernel
theorem dL_law_954 : decode cL_law 954 = .ok (.invokevirtual 135, 3) := by decide +kernel
theorem dL_law_957 : decode cL_law 957 = .ok (.aload_n 2, 1) := by decide +kernel
theorem dL_law_958 : decode cL_law 958 = .ok (.invokevirtual 138, 3) := by decide +kernel
theorem dL_law_961 : decode cL_law 961 = .ok (.if_icmp .eq 292, 3) := by decide +kernel
theorem dL_law_964 : decode cL_law 964 = .ok (.iconst 0, 1) := by decide +kernel
theorem dL_law_965 : decode cL_law 965 = .ok (.ireturn, 1) := by decide +kernel
theorem dL_law_966 : decode cL_law 966 = .ok (.aload_n 1, 1) := by decide +kernel
theorem dL_law_967 : decode cL_law 967 = .ok (.aload_n 0, 1) := by decide +kernel
theorem dL_law_968 : decode cL_law 968 = .ok (.iload_n 3, 1) := by decide +kernel
theorem dL_law_969 : decode cL_law 969 = .ok (.iconst 1, 1) := by decide +kernel
theorem dL_law_970 : decode cL_law 970 = .ok (.iadd, 1) := by decide +kernel
theorem dL_law_971 : decode cL_law 971 = .ok (.iaload, 1) := by decide +kernel
theorem dL_law_972 : decode cL_law 972 = .ok (.aload_n 0, 1) := by decide +kernel
theorem dL_law_973 : decode cL_law 973 = .ok (.iload_n 3, 1) := by decide +kernel
theorem dL_law_974 : decode cL_law 974 = .ok (.iconst 2, 1) := by decide +kernel
theorem dL_law_975 : decode cL_law 975 = .ok (.iadd, 1) := by decide +kernel
theorem dL_law_976 : decode cL_law 976 = .ok (.iaload, 1) := by decide +kernel
theorem dL_law_977 : decode cL_law 977 = .ok (.invokevirtual 139, 3) := by decide +kernel
theorem dL_law_980 : decode cL_law 980 = .ok (.aload_n 2, 1) := by decide +kernel
theorem dL_law_981 : decode cL_law 981 = .ok (.aload_n 0, 1) := by decide +kernel
theorem dL_law_982 : decode cL_law 982 = .ok (.iload_n 3, 1) := by decide +kernel
theorem dL_law_983 : decode cL_law 983 = .ok (.iconst 1, 1) := by decide +kernel
theorem dL_law_984 : decode cL_law 984 = .ok (.iadd, 1) := by decide +kernel
theorem dL_law_985 : decode cL_law 985 = .ok (.iaload, 1) := by decide +kernel
theorem dL_law_986 : decode cL_law 986 = .ok (.aload_n 0, 1) := by decide +kernel
theorem dL_law_987 : decode cL_law 987 = .ok (.iload_n 3, 1) := by decide +kernel
theorem dL_law_988 : decode cL_law 988 = .ok (.iconst 2, 1) := by decide +kernel
theorem dL_law_989 : decode cL_law 989 = .ok (.iadd, 1) := by decide +kernel
theorem dL_law_990 : decode cL_law 990 = .ok (.iaload, 1) := by decide +kernel
theorem dL_law_991 : decode cL_law 991 = .ok (.invokevirtual 142, 3) := by decide +kernel
theorem dL_law_994 : decode cL_law 994 = .ok (.if_icmp .eq 259, 3) := by decide +kernel
theorem dL_law_997 : decode cL_law 997 = .ok (.iconst 0, 1) := by decide +kernel
theorem dL_law_998 : decode cL_law 998 = .ok (.ireturn, 1) := by decide +kernel
theorem dL_law_999 : decode cL_law 999 = .ok (.aload_n 1, 1) := by decide +kernel
theorem dL_law_1000 : decode cL_law 1000 = .ok (.invokevirtual 143, 3) := by decide +kernel
theorem dL_law_1003 : decode cL_law 1003 = .ok (.aload_n 2, 1) := by decide +kernel
theorem dL_law_1004 : decode cL_law 1004 = .ok (.invokevirtual 146, 3) := by decide +kernel
theorem dL_law_1007 : decode cL_law 1007 = .ok (.if_icmp .eq 246, 3) := by decide +kernel
theorem dL_law_1010 : decode cL_law 1010 = .ok (.iconst 0, 1) := by decide +kernel
theorem dL_law_1011 : decode cL_law 1011 = .ok (.ireturn, 1) := by decide +kernel
theorem dL_law_1012 : decode cL_law 1012 = .ok (.aload_n 1, 1) := by decide +kernel
theorem dL_law_1013 : decode cL_law 1013 = .ok (.invokevirtual 147, 3) := by decide +kernel
theorem dL_law_1016 : decode cL_law 1016 = .ok (.aload_n 2, 1) := by decide +kernel
theorem dL_law_1017 : decode cL_law 1017 = .ok (.invokevirtual 150, 3) := by decide +kernel
theorem dL_law_1020 : decode cL_law 1020 = .ok (.if_icmp .eq 233, 3) := by decide +kernel
theorem dL_law_1023 : decode cL_law 1023 = .ok (.iconst 0, 1) := by decide +kernel
theorem dL_law_1024 : decode cL_law 1024 = .ok (.ireturn, 1) := by decide +kernel
theorem dL_law_1025 : decode cL_law 1025 = .ok (.aload_n 1, 1) := by decide +kernel
theorem dL_law_1026 : decode cL_law 1026 = .ok (.aload_n 0, 1) := by decide +kernel
theorem dL_law_1027 : decode cL_law 1027 = .ok (.iload_n 3, 1) := by decide +kernel
theorem dL_law_1028 : decode cL_law 1028 = .ok (.iconst 1, 1) := by decide +kernel
theorem dL_law_1029 : decode cL_law 1029 = .ok (.iadd, 1) := by decide +kernel
theorem dL_law_1030 : decode cL_law 1030 = .ok (.iaload, 1) := by decide +kernel
theorem dL_law_1031 : decode cL_law 1031 = .ok (.invokevirtual 151, 3) := by decide +kernel
theorem dL_law_1034 : decode cL_law 1034 = .ok (.aload_n 2, 1) := by decide +kernel
theorem dL_law_1035 : decode cL_law 1035 = .ok (.aload_n 0, 1) := by decide +kernel
theorem dL_law_1036 : decode cL_law 1036 = .ok (.iload_n 3, 1) := by decide +kernel
theorem dL_law_1037 : decode cL_law 1037 = .ok (.iconst 1, 1) := by decide +kernel
theorem dL_law_1038 : decode cL_law 1038 = .ok (.iadd, 1) := by decide +kernel
theorem dL_law_1039 : decode cL_law 1039 = .ok (.iaload, 1) := by decide +kernel
theorem dL_law_1040 : decode cL_law 1040 = .ok (.invokevirtual 154, 3) := by decide +kernel
theorem dL_law_1043 : decode cL_law 1043 = .ok (.if_icmp .eq 210, 3) := by decide +kernel
theorem dL_law_1046 : decode cL_law 1046 = .ok (.iconst 0, 1) := by decide +kernel
theorem dL_law_1047 : decode cL_law 1047 = .ok (.ireturn, 1) := by decide +kernel
theorem dL_law_1048 : decode cL_law 1048 = .ok (.aload_n 1, 1) := by decide +kernel
theorem dL_law_1049 : decode cL_law 1049 = .ok (.aload_n 0, 1) := by decide +kernel
theorem dL_law_1050 : decode cL_law 1050 = .ok (.iload_n 3, 1) := by decide +kernel
theorem dL_law_1051 : decode cL_law 1051 = .ok (.iconst 1, 1) := by decide +kernel
theorem dL_law_1052 : decode cL_law 1052 = .ok (.iadd, 1) := by decide +kernel
theorem dL_law_1053 : decode cL_law 1053 = .ok (.iaload, 1) := by decide +kernel
theorem dL_law_1054 : decode cL_law 1054 = .ok (.aload_n 0, 1) := by decide +kernel
theorem dL_law_1055 : decode cL_law 1055 = .ok (.iload_n 3, 1) := by decide +kernel
theorem dL_law_1056 : decode cL_law 1056 = .ok (.iconst 2, 1) := by decide +kernel
theorem dL_law_1057 : decode cL_law 1057 = .ok (.iadd, 1) := by decide +kernel
theorem dL_law_1058 : decode cL_law 1058 = .ok (.iaload, 1) := by decide +kernel
theorem dL_law_1059 : decode cL_law 1059 = .ok (.invokevirtual 155, 3) := by decide +kernel
theorem dL_law_1062 : decode cL_law 1062 = .ok (.aload_n 2, 1) := by decide +kernel
theorem dL_law_1063 : decode cL_law 1063 = .ok (.aload_n 0, 1) := by decide +kernel
theorem dL_law_1064 : decode cL_law 1064 = .ok (.iload_n 3, 1) := by decide +kernel
theorem dL_law_1065 : decode cL_law 1065 = .ok (.iconst 1, 1) := by decide +kernel
theorem dL_law_1066 : decode cL_law 1066 = .ok (.iadd, 1) := by decide +kernel
theorem dL_law_1067 : decode cL_law 1067 = .ok (.iaload, 1) := by decide +kernel
theorem dL_law_1068 : decode cL_law 1068 = .ok (.aload_n 0, 1) := by decide +kernel
theorem dL_law_1069 : decode cL_law 1069 = .ok (.iload_n 3, 1) := by decide +kernel
theorem dL_law_1070 : decode cL_law 1070 = .ok (.iconst 2, 1) := by decide +kernel
theorem dL_law_1071 : decode cL_law 1071 = .ok (.iadd, 1) := by decide +kernel
theorem dL_law_1072 : decode cL_law 1072 = .ok (.iaload, 1) := by decide +kernel
theorem dL_law_1073 : decode cL_law 1073 = .ok (.invokevirtual 159, 3) := by decide +kernel
theorem dL_law_1076 : decode cL_law 1076 = .ok (.lcmp, 1) := by decide +kernel
theorem dL_law_1077 : decode cL_law 1077 = .ok (.ifCond .eq 176, 3) := by decide +kernel
theorem dL_law_1080 : decode cL_law 1080 = .ok (.iconst 0, 1) := by decide +kernel
theorem dL_law_1081 : decode cL_law 1081 = .ok (.ireturn, 1) := by decide +kernel
theorem dL_law_1082 : decode cL_law 1082 = .ok (.aload_n 1, 1) := by decide +kernel
theorem dL_law_1083 : decode cL_law 1083 = .ok (.aload_n 0, 1) := by decide +kernel
theorem dL_law_1084 : decode cL_law 1084 = .ok (.iload_n 3, 1) := by decide +kernel
theorem dL_law_1085 : decode cL_law 1085 = .ok (.iconst 1, 1) := by decide +kernel
theorem dL_law_1086 : decode cL_law 1086 = .ok (.iadd, 1) := by decide +kernel
theorem dL_law_1087 : decode cL_law 1087 = .ok (.iaload, 1) := by decide +kernel
theorem dL_law_1088 : decode cL_law 1088 = .ok (.invokevirtual 160, 3) := by decide +kernel
theorem dL_law_1091 : decode cL_law 1091 = .ok (.aload_n 2, 1) := by decide +kernel
theorem dL_law_1092 : decode cL_law 1092 = .ok (.aload_n 0, 1) := by decide +kernel
theorem dL_law_1093 : decode cL_law 1093 = .ok (.iload_n 3, 1) := by decide +kernel
theorem dL_law_1094 : decode cL_law 1094 = .ok (.iconst 1, 1) := by decide +kernel
theorem dL_law_1095 : decode cL_law 1095 = .ok (.iadd, 1) := by decide +kernel
theorem dL_law_1096 : decode cL_law 1096 = .ok (.iaload, 1) := by decide +kernel
theorem dL_law_1097 : decode cL_law 1097 = .ok (.invokevirtual 163, 3) := by decide +kernel
theorem dL_law_1100 : decode cL_law 1100 = .ok (.if_icmp .eq 153, 3) := by decide +kernel
theorem dL_law_1103 : decode cL_law 1103 = .ok (.iconst 0, 1) := by decide +kernel
theorem dL_law_1104 : decode cL_law 1104 = .ok (.ireturn, 1) := by decide +kernel
theorem dL_law_1105 : decode cL_law 1105 = .ok (.aload_n 1, 1) := by decide +kernel
theorem dL_law_1106 : decode cL_law 1106 = .ok (.aload_n 0, 1) := by decide +kernel
theorem dL_law_1107 : decode cL_law 1107 = .ok (.iload_n 3, 1) := by decide +kernel
theorem dL_law_1108 : decode cL_law 1108 = .ok (.iconst 1, 1) := by decide +kernel
theorem dL_law_1109 : decode cL_law 1109 = .ok (.iadd, 1) := by decide +kernel
theorem dL_law_1110 : decode cL_law 1110 = .ok (.iaload, 1) := by decide +kernel
theorem dL_law_1111 : decode cL_law 1111 = .ok (.aload_n 0, 1) := by decide +kernel
theorem dL_law_1112 : decode cL_law 1112 = .ok (.iload_n 3, 1) := by decide +kernel
theorem dL_law_1113 : decode cL_law 1113 = .ok (.iconst 2, 1) := by decide +kernel
theorem dL_law_1114 : decode cL_law 1114 = .ok (.iadd, 1) := by decide +kernel
theorem dL_law_1115 : decode cL_law 1115 = .ok (.iaload, 1) := by decide +kernel
theorem dL_law_1116 : decode cL_law 1116 = .ok (.invokevirtual 164, 3) := by decide +kernel
theorem dL_law_1119 : decode cL_law 1119 = .ok (.aload_n 2, 1) := by decide +kernel
theorem dL_law_1120 : decode cL_law 1120 = .ok (.aload_n 0, 1) := by decide +kernel
theorem dL_law_1121 : decode cL_law 1121 = .ok (.iload_n 3, 1) := by decide +kernel
theorem dL_law_1122 : decode cL_law 1122 = .ok (.iconst 1, 1) := by decide +kernel
theorem dL_law_1123 : decode cL_law 1123 = .ok (.iadd, 1) := by decide +kernel
theorem dL_law_1124 : decode cL_law 1124 = .ok (.iaload, 1) := by decide +kernel
theorem dL_law_1125 : decode cL_law 1125 = .ok (.aload_n 0, 1) := by decide +kernel
theorem dL_law_1126 : decode cL_law 1126 = .ok (.iload_n 3, 1) := by decide +kernel
theorem dL_law_1127 : decode cL_law 1127 = .ok (.iconst 2, 1) := by decide +kernel
theorem dL_law_1128 : decode cL_law 1128 = .ok (.iadd, 1) := by decide +kernel
theorem dL_law_1129 : decode cL_law 1129 = .ok (.iaload, 1) := by decide +kernel
theorem dL_law_1130 : decode cL_law 1130 = .ok (.invokevirtual 167, 3) := by decide +kernel
theorem dL_law_1133 : decode cL_law 1133 = .ok (.if_icmp .eq 120, 3) := by decide +kernel
theorem dL_law_1136 : decode cL_law 1136 = .ok (.iconst 0, 1) := by decide +kernel
theorem dL_law_1137 : decode cL_law 1137 = .ok (.ireturn, 1) := by decide +kernel
theorem dL_law_1138 : decode cL_law 1138 = .ok (.aload_n 1, 1) := by decide +kernel
theorem dL_law_1139 : decode cL_law 1139 = .ok (.aload_n 0, 1) := by decide +kernel
theorem dL_law_1140 : decode cL_law 1140 = .ok (.iload_n 3, 1) := by decide +kernel
theorem dL_law_1141 : decode cL_law 1141 = .ok (.iconst 1, 1) := by decide +kernel
theorem dL_law_1142 : decode cL_law 1142 = .ok (.iadd, 1) := by decide +kernel
theorem dL_law_1143 : decode cL_law 1143 = .ok (.iaload, 1) := by decide +kernel
theorem dL_law_1144 : decode cL_law 1144 = .ok (.aload_n 0, 1) := by decide +kernel
theorem dL_law_1145 : decode cL_law 1145 = .ok (.iload_n 3, 1) := by decide +kernel
theorem dL_law_1146 : decode cL_law 1146 = .ok (.iconst 2, 1) := by decide +kernel
theorem dL_law_1147 : decode cL_law 1147 = .ok (.iadd, 1) := by decide +kernel
theorem dL_law_1148 : decode cL_law 1148 = .ok (.iaload, 1) := by decide +kernel
theorem dL_law_1149 : decode cL_law 1149 = .ok (.invokevirtual 168, 3) := by decide +kernel
theorem dL_law_1152 : decode cL_law 1152 = .ok (.aload_n 2, 1) := by decide +kernel
theorem dL_law_1153 : decode cL_law 1153 = .ok (.aload_n 0, 1) := by decide +kernel
theorem dL_law_1154 : decode cL_law 1154 = .ok (.iload_n 3, 1) := by decide +kernel
theorem dL_law_1155 : decode cL_law 1155 = .ok (.iconst 1, 1) := by decide +kernel
theorem dL_law_1156 : decode cL_law 1156 = .ok (.iadd, 1) := by decide +kernel
theorem dL_law_1157 : decode cL_law 1157 = .ok (.iaload, 1) := by decide +kernel
theorem dL_law_1158 : decode cL_law 1158 = .ok (.aload_n 0, 1) := by decide +kernel
theorem dL_law_1159 : decode cL_law 1159 = .ok (.iload_n 3, 1) := by decide +kernel
theorem dL_law_1160 : decode cL_law 1160 = .ok (.iconst 2, 1) := by decide +kernel
theorem dL_law_1161 : decode cL_law 1161 = .ok (.iadd, 1) := by decide +kernel
theorem dL_law_1162 : decode cL_law 1162 = .ok (.iaload, 1) := by decide +kernel
theorem dL_law_1163 : decode cL_law 1163 = .ok (.invokevirtual 171, 3) := by decide +kernel
theorem dL_law_1166 : decode cL_law 1166 = .ok (.if_icmp .eq 87, 3) := by decide +kernel
theorem dL_law_1169 : decode cL_law 1169 = .ok (.iconst 0, 1) := by decide +kernel
theorem dL_law_1170 : decode cL_law 1170 = .ok (.ireturn, 1) := by decide +kernel
theorem dL_law_1171 : decode cL_law 1171 = .ok (.aload_n 1, 1) := by decide +kernel
theorem dL_law_1172 : decode cL_law 1172 = .ok (.aload_n 0, 1) := by decide +kernel
theorem dL_law_1173 : decode cL_law 1173 = .ok (.iload_n 3, 1) := by decide +kernel
theorem dL_law_1174 : decode cL_law 1174 = .ok (.iconst 1, 1) := by decide +kernel
theorem dL_law_1175 : decode cL_law 1175 = .ok (.iadd, 1) := by decide +kernel
theorem dL_law_1176 : decode cL_law 1176 = .ok (.iaload, 1) := by decide +kernel
theorem dL_law_1177 : decode cL_law 1177 = .ok (.invokevirtual 172, 3) := by decide +kernel
theorem dL_law_1180 : decode cL_law 1180 = .ok (.aload_n 2, 1) := by decide +kernel
theorem dL_law_1181 : decode cL_law 1181 = .ok (.aload_n 0, 1) := by decide +kernel
theorem dL_law_1182 : decode cL_law 1182 = .ok (.iload_n 3, 1) := by decide +kernel
theorem dL_law_1183 : decode cL_law 1183 = .ok (.iconst 1, 1) := by decide +kernel
theorem dL_law_1184 : decode cL_law 1184 = .ok (.iadd, 1) := by decide +kernel
theorem dL_law_1185 : decode cL_law 1185 = .ok (.iaload, 1) := by decide +kernel
theorem dL_law_1186 : decode cL_law 1186 = .ok (.invokevirtual 175, 3) := by decide +kernel
theorem dL_law_1189 : decode cL_law 1189 = .ok (.if_icmp .eq 64, 3) := by decide +kernel
theorem dL_law_1192 : decode cL_law 1192 = .ok (.iconst 0, 1) := by decide +kernel
theorem dL_law_1193 : decode cL_law 1193 = .ok (.ireturn, 1) := by decide +kernel
theorem dL_law_1194 : decode cL_law 1194 = .ok (.aload_n 1, 1) := by decide +kernel
theorem dL_law_1195 : decode cL_law 1195 = .ok (.aload_n 0, 1) := by decide +kernel
theorem dL_law_1196 : decode cL_law 1196 = .ok (.iload_n 3, 1) := by decide +kernel
theorem dL_law_1197 : decode cL_law 1197 = .ok (.iconst 1, 1) := by decide +kernel
theorem dL_law_1198 : decode cL_law 1198 = .ok (.iadd, 1) := by decide +kernel
theorem dL_law_1199 : decode cL_law 1199 = .ok (.iaload, 1) := by decide +kernel
theorem dL_law_1200 : decode cL_law 1200 = .ok (.invokevirtual 176, 3) := by decide +kernel
theorem dL_law_1203 : decode cL_law 1203 = .ok (.aload_n 2, 1) := by decide +kernel
theorem dL_law_1204 : decode cL_law 1204 = .ok (.aload_n 0, 1) := by decide +kernel
theorem dL_law_1205 : decode cL_law 1205 = .ok (.iload_n 3, 1) := by decide +kernel
theorem dL_law_1206 : decode cL_law 1206 = .ok (.iconst 1, 1) := by decide +kernel
theorem dL_law_1207 : decode cL_law 1207 = .ok (.iadd, 1) := by decide +kernel
theorem dL_law_1208 : decode cL_law 1208 = .ok (.iaload, 1) := by decide +kernel
theorem dL_law_1209 : decode cL_law 1209 = .ok (.invokevirtual 179, 3) := by decide +kernel
theorem dL_law_1212 : decode cL_law 1212 = .ok (.if_icmp .eq 41, 3) := by decide +kernel
theorem dL_law_1215 : decode cL_law 1215 = .ok (.iconst 0, 1) := by decide +kernel
theorem dL_law_1216 : decode cL_law 1216 = .ok (.ireturn, 1) := by decide +kernel
theorem dL_law_1217 : decode cL_law 1217 = .ok (.aload_n 1, 1) := by decide +kernel
theorem dL_law_1218 : decode cL_law 1218 = .ok (.aload_n 0, 1) := by decide +kernel
theorem dL_law_1219 : decode cL_law 1219 = .ok (.iload_n 3, 1) := by decide +kernel
theorem dL_law_1220 : decode cL_law 1220 = .ok (.iconst 1, 1) := by decide +kernel
theorem dL_law_1221 : decode cL_law 1221 = .ok (.iadd, 1) := by decide +kernel
theorem dL_law_1222 : decode cL_law 1222 = .ok (.iaload, 1) := by decide +kernel
theorem dL_law_1223 : decode cL_law 1223 = .ok (.invokevirtual 180, 3) := by decide +kernel
theorem dL_law_1226 : decode cL_law 1226 = .ok (.aload_n 2, 1) := by decide +kernel
theorem dL_law_1227 : decode cL_law 1227 = .ok (.aload_n 0, 1) := by decide +kernel
theorem dL_law_1228 : decode cL_law 1228 = .ok (.iload_n 3, 1) := by decide +kernel
theorem dL_law_1229 : decode cL_law 1229 = .ok (.iconst 1, 1) := by decide +kernel
theorem dL_law_1230 : decode cL_law 1230 = .ok (.iadd, 1) := by decide +kernel
theorem dL_law_1231 : decode cL_law 1231 = .ok (.iaload, 1) := by decide +kernel
theorem dL_law_1232 : decode cL_law 1232 = .ok (.invokevirtual 183, 3) := by decide +kernel
theorem dL_law_1235 : decode cL_law 1235 = .ok (.if_icmp .eq 18, 3) := by decide +kernel
theorem dL_law_1238 : decode cL_law 1238 = .ok (.iconst 0, 1) := by decide +kernel
theorem dL_law_1239 : decode cL_law 1239 = .ok (.ireturn, 1) := by decide +kernel
theorem dL_law_1240 : decode cL_law 1240 = .ok (.aload_n 1, 1) := by decide +kernel
theorem dL_law_1241 : decode cL_law 1241 = .ok (.invokevirtual 184, 3) := by decide +kernel
theorem dL_law_1244 : decode cL_law 1244 = .ok (.aload_n 2, 1) := by decide +kernel
theorem dL_law_1245 : decode cL_law 1245 = .ok (.invokevirtual 187, 3) := by decide +kernel
theorem dL_law_1248 : decode cL_law 1248 = .ok (.if_icmp .eq 5, 3) := by decide +kernel
theorem dL_law_1251 : decode cL_law 1251 = .ok (.iconst 0, 1) := by decide +kernel
theorem dL_law_1252 : decode cL_law 1252 = .ok (.ireturn, 1) := by decide +kernel
theorem dL_law_1253 : decode cL_law 1253 = .ok (.iinc 3 6, 3) := by decide +kernel
theorem dL_law_1256 : decode cL_law 1256 = .ok (.goto (-1238), 3) := by decide +kernel
theorem dL_law_1259 : decode cL_law 1259 = .ok (.iconst 1, 1) := by decide +kernel
theorem dL_law_1260 : decode cL_law 1260 = .ok (.ireturn, 1) := by decide +kernel
