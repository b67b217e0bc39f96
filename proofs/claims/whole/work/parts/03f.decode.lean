theorem dX11_laysNoise_14 : decode cX11_laysNoise 14 = .ok (.iconst 0, 1) := by decide +kernel
theorem dX11_laysNoise_15 : decode cX11_laysNoise 15 = .ok (.istore_n 2, 1) := by decide +kernel
theorem dX11_laysNoise_16 : decode cX11_laysNoise 16 = .ok (.iload_n 2, 1) := by decide +kernel
theorem dX11_laysNoise_17 : decode cX11_laysNoise 17 = .ok (.aload_n 0, 1) := by decide +kernel
theorem dX11_laysNoise_18 : decode cX11_laysNoise 18 = .ok (.getfield 28, 3) := by decide +kernel
theorem dX11_laysNoise_21 : decode cX11_laysNoise 21 = .ok (.bipush 19, 2) := by decide +kernel
theorem dX11_laysNoise_23 : decode cX11_laysNoise 23 = .ok (.iload_n 1, 1) := by decide +kernel
theorem dX11_laysNoise_24 : decode cX11_laysNoise 24 = .ok (.iadd, 1) := by decide +kernel
theorem dX11_laysNoise_25 : decode cX11_laysNoise 25 = .ok (.iaload, 1) := by decide +kernel
theorem dX11_laysNoise_26 : decode cX11_laysNoise 26 = .ok (.if_icmp .ge 26, 3) := by decide +kernel
theorem dX11_laysNoise_29 : decode cX11_laysNoise 29 = .ok (.aload_n 0, 1) := by decide +kernel
theorem dX11_laysNoise_30 : decode cX11_laysNoise 30 = .ok (.getfield 81, 3) := by decide +kernel
theorem dX11_laysNoise_33 : decode cX11_laysNoise 33 = .ok (.bipush 12, 2) := by decide +kernel
theorem dX11_laysNoise_35 : decode cX11_laysNoise 35 = .ok (.iload_n 1, 1) := by decide +kernel
theorem dX11_laysNoise_36 : decode cX11_laysNoise 36 = .ok (.imul, 1) := by decide +kernel
theorem dX11_laysNoise_37 : decode cX11_laysNoise 37 = .ok (.iload_n 2, 1) := by decide +kernel
theorem dX11_laysNoise_38 : decode cX11_laysNoise 38 = .ok (.iadd, 1) := by decide +kernel
theorem dX11_laysNoise_39 : decode cX11_laysNoise 39 = .ok (.aload_n 0, 1) := by decide +kernel
theorem dX11_laysNoise_40 : decode cX11_laysNoise 40 = .ok (.iload_n 1, 1) := by decide +kernel
theorem dX11_laysNoise_41 : decode cX11_laysNoise 41 = .ok (.iload_n 2, 1) := by decide +kernel
theorem dX11_laysNoise_42 : decode cX11_laysNoise 42 = .ok (.invokevirtual 138, 3) := by decide +kernel
theorem dX11_laysNoise_45 : decode cX11_laysNoise 45 = .ok (.iastore, 1) := by decide +kernel
theorem dX11_laysNoise_46 : decode cX11_laysNoise 46 = .ok (.iinc 2 1, 3) := by decide +kernel
theorem dX11_laysNoise_49 : decode cX11_laysNoise 49 = .ok (.goto (-33), 3) := by decide +kernel
theorem dX11_laysNoise_52 : decode cX11_laysNoise 52 = .ok (.iinc 1 1, 3) := by decide +kernel
theorem dX11_laysNoise_55 : decode cX11_laysNoise 55 = .ok (.goto (-49), 3) := by decide +kernel
theorem dX11_laysNoise_58 : decode cX11_laysNoise 58 = .ok (.iconst 0, 1) := by decide +kernel
theorem dX11_laysNoise_59 : decode cX11_laysNoise 59 = .ok (.istore_n 1, 1) := by decide +kernel
theorem dX11_laysNoise_60 : decode cX11_laysNoise 60 = .ok (.iload_n 1, 1) := by decide +kernel
theorem dX11_laysNoise_61 : decode cX11_laysNoise 61 = .ok (.aload_n 0, 1) := by decide +kernel
theorem dX11_laysNoise_62 : decode cX11_laysNoise 62 = .ok (.getfield 380, 3) := by decide +kernel
theorem dX11_laysNoise_65 : decode cX11_laysNoise 65 = .ok (.if_icmp .ge 74, 3) := by decide +kernel
theorem dX11_laysNoise_68 : decode cX11_laysNoise 68 = .ok (.aload_n 0, 1) := by decide +kernel
theorem dX11_laysNoise_69 : decode cX11_laysNoise 69 = .ok (.getfield 78, 3) := by decide +kernel
theorem dX11_laysNoise_72 : decode cX11_laysNoise 72 = .ok (.iload_n 1, 1) := by decide +kernel
theorem dX11_laysNoise_73 : decode cX11_laysNoise 73 = .ok (.iconst 0, 1) := by decide +kernel
theorem dX11_laysNoise_74 : decode cX11_laysNoise 74 = .ok (.iastore, 1) := by decide +kernel
theorem dX11_laysNoise_75 : decode cX11_laysNoise 75 = .ok (.iconst 0, 1) := by decide +kernel
theorem dX11_laysNoise_76 : decode cX11_laysNoise 76 = .ok (.istore_n 2, 1) := by decide +kernel
theorem dX11_laysNoise_77 : decode cX11_laysNoise 77 = .ok (.iload_n 2, 1) := by decide +kernel
theorem dX11_laysNoise_78 : decode cX11_laysNoise 78 = .ok (.aload_n 0, 1) := by decide +kernel
theorem dX11_laysNoise_79 : decode cX11_laysNoise 79 = .ok (.invokevirtual 112, 3) := by decide +kernel
theorem dX11_laysNoise_82 : decode cX11_laysNoise 82 = .ok (.if_icmp .ge 51, 3) := by decide +kernel
theorem dX11_laysNoise_85 : decode cX11_laysNoise 85 = .ok (.aload_n 0, 1) := by decide +kernel
theorem dX11_laysNoise_86 : decode cX11_laysNoise 86 = .ok (.getfield 78, 3) := by decide +kernel
theorem dX11_laysNoise_89 : decode cX11_laysNoise 89 = .ok (.iload_n 1, 1) := by decide +kernel
theorem dX11_laysNoise_90 : decode cX11_laysNoise 90 = .ok (.dup2, 1) := by decide +kernel
theorem dX11_laysNoise_91 : decode cX11_laysNoise 91 = .ok (.iaload, 1) := by decide +kernel
theorem dX11_laysNoise_92 : decode cX11_laysNoise 92 = .ok (.aload_n 0, 1) := by decide +kernel
theorem dX11_laysNoise_93 : decode cX11_laysNoise 93 = .ok (.getfield 75, 3) := by decide +kernel
theorem dX11_laysNoise_96 : decode cX11_laysNoise 96 = .ok (.iload_n 1, 1) := by decide +kernel
theorem dX11_laysNoise_97 : decode cX11_laysNoise 97 = .ok (.iaload, 1) := by decide +kernel
theorem dX11_laysNoise_98 : decode cX11_laysNoise 98 = .ok (.iload_n 2, 1) := by decide +kernel
theorem dX11_laysNoise_99 : decode cX11_laysNoise 99 = .ok (.invokestatic 116, 3) := by decide +kernel
theorem dX11_laysNoise_102 : decode cX11_laysNoise 102 = .ok (.ifCond .eq 22, 3) := by decide +kernel
theorem dX11_laysNoise_105 : decode cX11_laysNoise 105 = .ok (.aload_n 0, 1) := by decide +kernel
theorem dX11_laysNoise_106 : decode cX11_laysNoise 106 = .ok (.getfield 81, 3) := by decide +kernel
theorem dX11_laysNoise_109 : decode cX11_laysNoise 109 = .ok (.bipush 12, 2) := by decide +kernel
theorem dX11_laysNoise_111 : decode cX11_laysNoise 111 = .ok (.iload_n 2, 1) := by decide +kernel
theorem dX11_laysNoise_112 : decode cX11_laysNoise 112 = .ok (.imul, 1) := by decide +kernel
theorem dX11_laysNoise_113 : decode cX11_laysNoise 113 = .ok (.aload_n 0, 1) := by decide +kernel
theorem dX11_laysNoise_114 : decode cX11_laysNoise 114 = .ok (.iload_n 2, 1) := by decide +kernel
theorem dX11_laysNoise_115 : decode cX11_laysNoise 115 = .ok (.iload_n 1, 1) := by decide +kernel
theorem dX11_laysNoise_116 : decode cX11_laysNoise 116 = .ok (.invokevirtual 338, 3) := by decide +kernel
theorem dX11_laysNoise_119 : decode cX11_laysNoise 119 = .ok (.iadd, 1) := by decide +kernel
theorem dX11_laysNoise_120 : decode cX11_laysNoise 120 = .ok (.iaload, 1) := by decide +kernel
theorem dX11_laysNoise_121 : decode cX11_laysNoise 121 = .ok (.goto 4, 3) := by decide +kernel
theorem dX11_laysNoise_124 : decode cX11_laysNoise 124 = .ok (.iconst 0, 1) := by decide +kernel
theorem dX11_laysNoise_125 : decode cX11_laysNoise 125 = .ok (.iadd, 1) := by decide +kernel
theorem dX11_laysNoise_126 : decode cX11_laysNoise 126 = .ok (.iastore, 1) := by decide +kernel
theorem dX11_laysNoise_127 : decode cX11_laysNoise 127 = .ok (.iinc 2 1, 3) := by decide +kernel
theorem dX11_laysNoise_130 : decode cX11_laysNoise 130 = .ok (.goto (-53), 3) := by decide +kernel
theorem dX11_laysNoise_133 : decode cX11_laysNoise 133 = .ok (.iinc 1 1, 3) := by decide +kernel
theorem dX11_laysNoise_136 : decode cX11_laysNoise 136 = .ok (.goto (-76), 3) := by decide +kernel
theorem dX11_laysNoise_139 : decode cX11_laysNoise 139 = .ok (.return_, 1) := by decide +kernel
theorem dX11_isSet_0 : decode cX11_isSet 0 = .ok (.iload_n 1, 1) := by decide +kernel
theorem dX11_isSet_1 : decode cX11_isSet 1 = .ok (.iconst 0, 1) := by decide +kernel
theorem dX11_isSet_2 : decode cX11_isSet 2 = .ok (.iconst 1, 1) := by decide +kernel
theorem dX11_isSet_3 : decode cX11_isSet 3 = .ok (.aload_n 0, 1) := by decide +kernel
theorem dX11_isSet_4 : decode cX11_isSet 4 = .ok (.invokevirtual 112, 3) := by decide +kernel
theorem dX11_isSet_7 : decode cX11_isSet 7 = .ok (.ishl, 1) := by decide +kernel
theorem dX11_isSet_8 : decode cX11_isSet 8 = .ok (.iconst 1, 1) := by decide +kernel
theorem dX11_isSet_9 : decode cX11_isSet 9 = .ok (.isub, 1) := by decide +kernel
theorem dX11_isSet_10 : decode cX11_isSet 10 = .ok (.invokestatic 18, 3) := by decide +kernel
theorem dX11_isSet_13 : decode cX11_isSet 13 = .ok (.ireturn, 1) := by decide +kernel
theorem dX11_when_0 : decode cX11_when 0 = .ok (.aload_n 0, 1) := by decide +kernel
theorem dX11_when_1 : decode cX11_when 1 = .ok (.iload_n 1, 1) := by decide +kernel
theorem dX11_when_2 : decode cX11_when 2 = .ok (.invokevirtual 386, 3) := by decide +kernel
theorem dX11_when_5 : decode cX11_when 5 = .ok (.ifCond .ne 5, 3) := by decide +kernel
theorem dX11_when_8 : decode cX11_when 8 = .ok (.iconst (-1), 1) := by decide +kernel
theorem dX11_when_9 : decode cX11_when 9 = .ok (.ireturn, 1) := by decide +kernel
theorem dX11_when_10 : decode cX11_when 10 = .ok (.aload_n 0, 1) := by decide +kernel
theorem dX11_when_11 : decode cX11_when 11 = .ok (.invokevirtual 383, 3) := by decide +kernel
theorem dX11_when_14 : decode cX11_when 14 = .ok (.iconst 0, 1) := by decide +kernel
theorem dX11_when_15 : decode cX11_when 15 = .ok (.istore_n 2, 1) := by decide +kernel
theorem dX11_when_16 : decode cX11_when 16 = .ok (.iload_n 2, 1) := by decide +kernel
theorem dX11_when_17 : decode cX11_when 17 = .ok (.aload_n 0, 1) := by decide +kernel
theorem dX11_when_18 : decode cX11_when 18 = .ok (.getfield 380, 3) := by decide +kernel
theorem dX11_when_21 : decode cX11_when 21 = .ok (.if_icmp .ge 23, 3) := by decide +kernel
theorem dX11_when_24 : decode cX11_when 24 = .ok (.aload_n 0, 1) := by decide +kernel
theorem dX11_when_25 : decode cX11_when 25 = .ok (.getfield 75, 3) := by decide +kernel
theorem dX11_when_28 : decode cX11_when 28 = .ok (.iload_n 2, 1) := by decide +kernel
theorem dX11_when_29 : decode cX11_when 29 = .ok (.iaload, 1) := by decide +kernel
theorem dX11_when_30 : decode cX11_when 30 = .ok (.iload_n 1, 1) := by decide +kernel
theorem dX11_when_31 : decode cX11_when 31 = .ok (.iand, 1) := by decide +kernel
theorem dX11_when_32 : decode cX11_when 32 = .ok (.iload_n 1, 1) := by decide +kernel
theorem dX11_when_33 : decode cX11_when 33 = .ok (.if_icmp .ne 5, 3) := by decide +kernel
theorem dX11_when_36 : decode cX11_when 36 = .ok (.iload_n 2, 1) := by decide +kernel
theorem dX11_when_37 : decode cX11_when 37 = .ok (.ireturn, 1) := by decide +kernel
theorem dX11_when_38 : decode cX11_when 38 = .ok (.iinc 2 1, 3) := by decide +kernel
theorem dX11_when_41 : decode cX11_when 41 = .ok (.goto (-25), 3) := by decide +kernel
theorem dX11_when_44 : decode cX11_when 44 = .ok (.iconst (-1), 1) := by decide +kernel
theorem dX11_when_45 : decode cX11_when 45 = .ok (.ireturn, 1) := by decide +kernel
theorem dX11_often_0 : decode cX11_often 0 = .ok (.aload_n 0, 1) := by decide +kernel
theorem dX11_often_1 : decode cX11_often 1 = .ok (.iload_n 1, 1) := by decide +kernel
theorem dX11_often_2 : decode cX11_often 2 = .ok (.invokevirtual 386, 3) := by decide +kernel
theorem dX11_often_5 : decode cX11_often 5 = .ok (.ifCond .ne 5, 3) := by decide +kernel
theorem dX11_often_8 : decode cX11_often 8 = .ok (.iconst (-1), 1) := by decide +kernel
theorem dX11_often_9 : decode cX11_often 9 = .ok (.ireturn, 1) := by decide +kernel
theorem dX11_often_10 : decode cX11_often 10 = .ok (.aload_n 0, 1) := by decide +kernel
theorem dX11_often_11 : decode cX11_often 11 = .ok (.invokevirtual 383, 3) := by decide +kernel
theorem dX11_often_14 : decode cX11_often 14 = .ok (.iconst 0, 1) := by decide +kernel
theorem dX11_often_15 : decode cX11_often 15 = .ok (.istore_n 2, 1) := by decide +kernel
theorem dX11_often_16 : decode cX11_often 16 = .ok (.iconst 0, 1) := by decide +kernel
theorem dX11_often_17 : decode cX11_often 17 = .ok (.istore_n 3, 1) := by decide +kernel
theorem dX11_often_18 : decode cX11_often 18 = .ok (.iload_n 3, 1) := by decide +kernel
theorem dX11_often_19 : decode cX11_often 19 = .ok (.aload_n 0, 1) := by decide +kernel
theorem dX11_often_20 : decode cX11_often 20 = .ok (.getfield 380, 3) := by decide +kernel
theorem dX11_often_23 : decode cX11_often 23 = .ok (.if_icmp .ge 29, 3) := by decide +kernel
theorem dX11_often_26 : decode cX11_often 26 = .ok (.iload_n 2, 1) := by decide +kernel
theorem dX11_often_27 : decode cX11_often 27 = .ok (.aload_n 0, 1) := by decide +kernel
theorem dX11_often_28 : decode cX11_often 28 = .ok (.getfield 75, 3) := by decide +kernel
theorem dX11_often_31 : decode cX11_often 31 = .ok (.iload_n 3, 1) := by decide +kernel
theorem dX11_often_32 : decode cX11_often 32 = .ok (.iaload, 1) := by decide +kernel
theorem dX11_often_33 : decode cX11_often 33 = .ok (.iload_n 1, 1) := by decide +kernel
theorem dX11_often_34 : decode cX11_often 34 = .ok (.iand, 1) := by decide +kernel
theorem dX11_often_35 : decode cX11_often 35 = .ok (.iload_n 1, 1) := by decide +kernel
theorem dX11_often_36 : decode cX11_often 36 = .ok (.if_icmp .ne 7, 3) := by decide +kernel
theorem dX11_often_39 : decode cX11_often 39 = .ok (.iconst 1, 1) := by decide +kernel
theorem dX11_often_40 : decode cX11_often 40 = .ok (.goto 4, 3) := by decide +kernel
theorem dX11_often_43 : decode cX11_often 43 = .ok (.iconst 0, 1) := by decide +kernel
theorem dX11_often_44 : decode cX11_often 44 = .ok (.iadd, 1) := by decide +kernel
theorem dX11_often_45 : decode cX11_often 45 = .ok (.istore_n 2, 1) := by decide +kernel
theorem dX11_often_46 : decode cX11_often 46 = .ok (.iinc 3 1, 3) := by decide +kernel
theorem dX11_often_49 : decode cX11_often 49 = .ok (.goto (-31), 3) := by decide +kernel
theorem dX11_often_52 : decode cX11_often 52 = .ok (.iload_n 2, 1) := by decide +kernel
theorem dX11_often_53 : decode cX11_often 53 = .ok (.ireturn, 1) := by decide +kernel
theorem dX11_alone_0 : decode cX11_alone 0 = .ok (.aload_n 0, 1) := by decide +kernel
theorem dX11_alone_1 : decode cX11_alone 1 = .ok (.iload_n 1, 1) := by decide +kernel
theorem dX11_alone_2 : decode cX11_alone 2 = .ok (.invokevirtual 128, 3) := by decide +kernel
theorem dX11_alone_5 : decode cX11_alone 5 = .ok (.ifCond .ne 5, 3) := by decide +kernel
theorem dX11_alone_8 : decode cX11_alone 8 = .ok (.iconst (-1), 1) := by decide +kernel
theorem dX11_alone_9 : decode cX11_alone 9 = .ok (.ireturn, 1) := by decide +kernel
theorem dX11_alone_10 : decode cX11_alone 10 = .ok (.aload_n 0, 1) := by decide +kernel
theorem dX11_alone_11 : decode cX11_alone 11 = .ok (.invokevirtual 383, 3) := by decide +kernel
theorem dX11_alone_14 : decode cX11_alone 14 = .ok (.iconst 0, 1) := by decide +kernel
theorem dX11_alone_15 : decode cX11_alone 15 = .ok (.istore_n 2, 1) := by decide +kernel
theorem dX11_alone_16 : decode cX11_alone 16 = .ok (.iconst 0, 1) := by decide +kernel
theorem dX11_alone_17 : decode cX11_alone 17 = .ok (.istore_n 3, 1) := by decide +kernel
theorem dX11_alone_18 : decode cX11_alone 18 = .ok (.iload_n 3, 1) := by decide +kernel
theorem dX11_alone_19 : decode cX11_alone 19 = .ok (.aload_n 0, 1) := by decide +kernel
theorem dX11_alone_20 : decode cX11_alone 20 = .ok (.getfield 380, 3) := by decide +kernel
theorem dX11_alone_23 : decode cX11_alone 23 = .ok (.if_icmp .ge 29, 3) := by decide +kernel
theorem dX11_alone_26 : decode cX11_alone 26 = .ok (.iload_n 2, 1) := by decide +kernel
theorem dX11_alone_27 : decode cX11_alone 27 = .ok (.aload_n 0, 1) := by decide +kernel
theorem dX11_alone_28 : decode cX11_alone 28 = .ok (.getfield 75, 3) := by decide +kernel
theorem dX11_alone_31 : decode cX11_alone 31 = .ok (.iload_n 3, 1) := by decide +kernel
theorem dX11_alone_32 : decode cX11_alone 32 = .ok (.iaload, 1) := by decide +kernel
theorem dX11_alone_33 : decode cX11_alone 33 = .ok (.iconst 1, 1) := by decide +kernel
theorem dX11_alone_34 : decode cX11_alone 34 = .ok (.iload_n 1, 1) := by decide +kernel
theorem dX11_alone_35 : decode cX11_alone 35 = .ok (.ishl, 1) := by decide +kernel
theorem dX11_alone_36 : decode cX11_alone 36 = .ok (.if_icmp .ne 7, 3) := by decide +kernel
theorem dX11_alone_39 : decode cX11_alone 39 = .ok (.iconst 1, 1) := by decide +kernel
theorem dX11_alone_40 : decode cX11_alone 40 = .ok (.goto 4, 3) := by decide +kernel
theorem dX11_alone_43 : decode cX11_alone 43 = .ok (.iconst 0, 1) := by decide +kernel
theorem dX11_alone_44 : decode cX11_alone 44 = .ok (.iadd, 1) := by decide +kernel
theorem dX11_alone_45 : decode cX11_alone 45 = .ok (.istore_n 2, 1) := by decide +kernel
theorem dX11_alone_46 : decode cX11_alone 46 = .ok (.iinc 3 1, 3) := by decide +kernel
theorem dX11_alone_49 : decode cX11_alone 49 = .ok (.goto (-31), 3) := by decide +kernel
theorem dX11_alone_52 : decode cX11_alone 52 = .ok (.iload_n 2, 1) := by decide +kernel
theorem dX11_alone_53 : decode cX11_alone 53 = .ok (.ireturn, 1) := by decide +kernel
theorem dX11_loudest_0 : decode cX11_loudest 0 = .ok (.iload_n 1, 1) := by decide +kernel
theorem dX11_loudest_1 : decode cX11_loudest 1 = .ok (.iconst 0, 1) := by decide +kernel
theorem dX11_loudest_2 : decode cX11_loudest 2 = .ok (.iconst 2, 1) := by decide +kernel
theorem dX11_loudest_3 : decode cX11_loudest 3 = .ok (.invokestatic 18, 3) := by decide +kernel
theorem dX11_loudest_6 : decode cX11_loudest 6 = .ok (.ifCond .ne 5, 3) := by decide +kernel
theorem dX11_loudest_9 : decode cX11_loudest 9 = .ok (.iconst (-1), 1) := by decide +kernel
theorem dX11_loudest_10 : decode cX11_loudest 10 = .ok (.ireturn, 1) := by decide +kernel
theorem dX11_loudest_11 : decode cX11_loudest 11 = .ok (.aload_n 0, 1) := by decide +kernel
theorem dX11_loudest_12 : decode cX11_loudest 12 = .ok (.invokevirtual 389, 3) := by decide +kernel
theorem dX11_loudest_15 : decode cX11_loudest 15 = .ok (.iconst (-1), 1) := by decide +kernel
theorem dX11_loudest_16 : decode cX11_loudest 16 = .ok (.istore_n 2, 1) := by decide +kernel
theorem dX11_loudest_17 : decode cX11_loudest 17 = .ok (.iconst (-1), 1) := by decide +kernel
theorem dX11_loudest_18 : decode cX11_loudest 18 = .ok (.istore_n 3, 1) := by decide +kernel
theorem dX11_loudest_19 : decode cX11_loudest 19 = .ok (.iconst 0, 1) := by decide +kernel
theorem dX11_loudest_20 : decode cX11_loudest 20 = .ok (.istore 4, 2) := by decide +kernel
theorem dX11_loudest_22 : decode cX11_loudest 22 = .ok (.iconst 0, 1) := by decide +kernel
theorem dX11_loudest_23 : decode cX11_loudest 23 = .ok (.istore 5, 2) := by decide +kernel
theorem dX11_loudest_25 : decode cX11_loudest 25 = .ok (.iload 5, 2) := by decide +kernel
theorem dX11_loudest_27 : decode cX11_loudest 27 = .ok (.aload_n 0, 1) := by decide +kernel
theorem dX11_loudest_28 : decode cX11_loudest 28 = .ok (.getfield 380, 3) := by decide +kernel
theorem dX11_loudest_31 : decode cX11_loudest 31 = .ok (.if_icmp .ge 55, 3) := by decide +kernel
theorem dX11_loudest_34 : decode cX11_loudest 34 = .ok (.aload_n 0, 1) := by decide +kernel
theorem dX11_loudest_35 : decode cX11_loudest 35 = .ok (.getfield 78, 3) := by decide +kernel
theorem dX11_loudest_38 : decode cX11_loudest 38 = .ok (.iload 5, 2) := by decide +kernel
theorem dX11_loudest_40 : decode cX11_loudest 40 = .ok (.iaload, 1) := by decide +kernel
theorem dX11_loudest_41 : decode cX11_loudest 41 = .ok (.iload_n 2, 1) := by decide +kernel
theorem dX11_loudest_42 : decode cX11_loudest 42 = .ok (.if_icmp .le 17, 3) := by decide +kernel
theorem dX11_loudest_45 : decode cX11_loudest 45 = .ok (.aload_n 0, 1) := by decide +kernel
theorem dX11_loudest_46 : decode cX11_loudest 46 = .ok (.getfield 78, 3) := by decide +kernel
theorem dX11_loudest_49 : decode cX11_loudest 49 = .ok (.iload 5, 2) := by decide +kernel
theorem dX11_loudest_51 : decode cX11_loudest 51 = .ok (.iaload, 1) := by decide +kernel
theorem dX11_loudest_52 : decode cX11_loudest 52 = .ok (.istore_n 2, 1) := by decide +kernel
theorem dX11_loudest_53 : decode cX11_loudest 53 = .ok (.iload 5, 2) := by decide +kernel
theorem dX11_loudest_55 : decode cX11_loudest 55 = .ok (.istore_n 3, 1) := by decide +kernel
theorem dX11_loudest_56 : decode cX11_loudest 56 = .ok (.iconst 0, 1) := by decide +kernel
theorem dX11_loudest_57 : decode cX11_loudest 57 = .ok (.istore 4, 2) := by decide +kernel
theorem dX11_loudest_59 : decode cX11_loudest 59 = .ok (.iload 4, 2) := by decide +kernel
theorem dX11_loudest_61 : decode cX11_loudest 61 = .ok (.aload_n 0, 1) := by decide +kernel
theorem dX11_loudest_62 : decode cX11_loudest 62 = .ok (.getfield 78, 3) := by decide +kernel
theorem dX11_loudest_65 : decode cX11_loudest 65 = .ok (.iload 5, 2) := by decide +kernel
theorem dX11_loudest_67 : decode cX11_loudest 67 = .ok (.iaload, 1) := by decide +kernel
theorem dX11_loudest_68 : decode cX11_loudest 68 = .ok (.iload_n 2, 1) := by decide +kernel
theorem dX11_loudest_69 : decode cX11_loudest 69 = .ok (.if_icmp .ne 7, 3) := by decide +kernel
theorem dX11_loudest_72 : decode cX11_loudest 72 = .ok (.iconst 1, 1) := by decide +kernel
theorem dX11_loudest_73 : decode cX11_loudest 73 = .ok (.goto 4, 3) := by decide +kernel
theorem dX11_loudest_76 : decode cX11_loudest 76 = .ok (.iconst 0, 1) := by decide +kernel
theorem dX11_loudest_77 : decode cX11_loudest 77 = .ok (.iadd, 1) := by decide +kernel
theorem dX11_loudest_78 : decode cX11_loudest 78 = .ok (.istore 4, 2) := by decide +kernel
theorem dX11_loudest_80 : decode cX11_loudest 80 = .ok (.iinc 5 1, 3) := by decide +kernel
theorem dX11_loudest_83 : decode cX11_loudest 83 = .ok (.goto (-58), 3) := by decide +kernel
theorem dX11_loudest_86 : decode cX11_loudest 86 = .ok (.iload_n 1, 1) := by decide +kernel
theorem dX11_loudest_87 : decode cX11_loudest 87 = .ok (.ifCond .ne 7, 3) := by decide +kernel
theorem dX11_loudest_90 : decode cX11_loudest 90 = .ok (.iload_n 2, 1) := by decide +kernel
theorem dX11_loudest_91 : decode cX11_loudest 91 = .ok (.goto 14, 3) := by decide +kernel
theorem dX11_loudest_94 : decode cX11_loudest 94 = .ok (.iload_n 1, 1) := by decide +kernel
theorem dX11_loudest_95 : decode cX11_loudest 95 = .ok (.iconst 1, 1) := by decide +kernel
theorem dX11_loudest_96 : decode cX11_loudest 96 = .ok (.if_icmp .ne 7, 3) := by decide +kernel
theorem dX11_loudest_99 : decode cX11_loudest 99 = .ok (.iload_n 3, 1) := by decide +kernel
theorem dX11_loudest_100 : decode cX11_loudest 100 = .ok (.goto 5, 3) := by decide +kernel
theorem dX11_loudest_103 : decode cX11_loudest 103 = .ok (.iload 4, 2) := by decide +kernel
theorem dX11_loudest_105 : decode cX11_loudest 105 = .ok (.ireturn, 1) := by decide +kernel
theorem dX11_quietFrom_0 : decode cX11_quietFrom 0 = .ok (.iconst 0, 1) := by decide +kernel
theorem dX11_quietFrom_1 : decode cX11_quietFrom 1 = .ok (.istore_n 2, 1) := by decide +kernel
theorem dX11_quietFrom_2 : decode cX11_quietFrom 2 = .ok (.iload_n 2, 1) := by decide +kernel
theorem dX11_quietFrom_3 : decode cX11_quietFrom 3 = .ok (.aload_n 0, 1) := by decide +kernel
theorem dX11_quietFrom_4 : decode cX11_quietFrom 4 = .ok (.getfield 380, 3) := by decide +kernel
theorem dX11_quietFrom_7 : decode cX11_quietFrom 7 = .ok (.if_icmp .ge 25, 3) := by decide +kernel
theorem dX11_quietFrom_10 : decode cX11_quietFrom 10 = .ok (.aload_n 0, 1) := by decide +kernel
theorem dX11_quietFrom_11 : decode cX11_quietFrom 11 = .ok (.getfield 75, 3) := by decide +kernel
theorem dX11_quietFrom_14 : decode cX11_quietFrom 14 = .ok (.iload_n 1, 1) := by decide +kernel
theorem dX11_quietFrom_15 : decode cX11_quietFrom 15 = .ok (.iload_n 2, 1) := by decide +kernel
theorem dX11_quietFrom_16 : decode cX11_quietFrom 16 = .ok (.iadd, 1) := by decide +kernel
theorem dX11_quietFrom_17 : decode cX11_quietFrom 17 = .ok (.aload_n 0, 1) := by decide +kernel
theorem dX11_quietFrom_18 : decode cX11_quietFrom 18 = .ok (.getfield 380, 3) := by decide +kernel
theorem dX11_quietFrom_21 : decode cX11_quietFrom 21 = .ok (.irem, 1) := by decide +kernel
theorem dX11_quietFrom_22 : decode cX11_quietFrom 22 = .ok (.iaload, 1) := by decide +kernel
theorem dX11_quietFrom_23 : decode cX11_quietFrom 23 = .ok (.ifCond .ne 9, 3) := by decide +kernel
theorem dX11_quietFrom_26 : decode cX11_quietFrom 26 = .ok (.iinc 2 1, 3) := by decide +kernel
theorem dX11_quietFrom_29 : decode cX11_quietFrom 29 = .ok (.goto (-27), 3) := by decide +kernel
theorem dX11_quietFrom_32 : decode cX11_quietFrom 32 = .ok (.iload_n 2, 1) := by decide +kernel
theorem dX11_quietFrom_33 : decode cX11_quietFrom 33 = .ok (.ireturn, 1) := by decide +kernel
theorem dX11_quiet_0 : decode cX11_quiet 0 = .ok (.iload_n 1, 1) := by decide +kernel
theorem dX11_quiet_1 : decode cX11_quiet 1 = .ok (.invokestatic 392, 3) := by decide +kernel
theorem dX11_quiet_4 : decode cX11_quiet 4 = .ok (.ifCond .ne 5, 3) := by decide +kernel
theorem dX11_quiet_7 : decode cX11_quiet 7 = .ok (.iconst (-1), 1) := by decide +kernel
theorem dX11_quiet_8 : decode cX11_quiet 8 = .ok (.ireturn, 1) := by decide +kernel
theorem dX11_quiet_9 : decode cX11_quiet 9 = .ok (.aload_n 0, 1) := by decide +kernel
theorem dX11_quiet_10 : decode cX11_quiet 10 = .ok (.invokevirtual 383, 3) := by decide +kernel
theorem dX11_quiet_13 : decode cX11_quiet 13 = .ok (.iconst 0, 1) := by decide +kernel
theorem dX11_quiet_14 : decode cX11_quiet 14 = .ok (.istore_n 2, 1) := by decide +kernel
theorem dX11_quiet_15 : decode cX11_quiet 15 = .ok (.iconst (-1), 1) := by decide +kernel
theorem dX11_quiet_16 : decode cX11_quiet 16 = .ok (.istore_n 3, 1) := by decide +kernel
theorem dX11_quiet_17 : decode cX11_quiet 17 = .ok (.iconst 0, 1) := by decide +kernel
theorem dX11_quiet_18 : decode cX11_quiet 18 = .ok (.istore 4, 2) := by decide +kernel
theorem dX11_quiet_20 : decode cX11_quiet 20 = .ok (.iload 4, 2) := by decide +kernel
theorem dX11_quiet_22 : decode cX11_quiet 22 = .ok (.aload_n 0, 1) := by decide +kernel
theorem dX11_quiet_23 : decode cX11_quiet 23 = .ok (.getfield 380, 3) := by decide +kernel
theorem dX11_quiet_26 : decode cX11_quiet 26 = .ok (.if_icmp .ge 35, 3) := by decide +kernel
theorem dX11_quiet_29 : decode cX11_quiet 29 = .ok (.aload_n 0, 1) := by decide +kernel
theorem dX11_quiet_30 : decode cX11_quiet 30 = .ok (.iload 4, 2) := by decide +kernel
theorem dX11_quiet_32 : decode cX11_quiet 32 = .ok (.invokevirtual 395, 3) := by decide +kernel
theorem dX11_quiet_35 : decode cX11_quiet 35 = .ok (.istore 5, 2) := by decide +kernel
theorem dX11_quiet_37 : decode cX11_quiet 37 = .ok (.iload 5, 2) := by decide +kernel
theorem dX11_quiet_39 : decode cX11_quiet 39 = .ok (.iload_n 2, 1) := by decide +kernel
theorem dX11_quiet_40 : decode cX11_quiet 40 = .ok (.if_icmp .le 9, 3) := by decide +kernel
theorem dX11_quiet_43 : decode cX11_quiet 43 = .ok (.iload 5, 2) := by decide +kernel
theorem dX11_quiet_45 : decode cX11_quiet 45 = .ok (.istore_n 2, 1) := by decide +kernel
theorem dX11_quiet_46 : decode cX11_quiet 46 = .ok (.iload 4, 2) := by decide +kernel
theorem dX11_quiet_48 : decode cX11_quiet 48 = .ok (.istore_n 3, 1) := by decide +kernel
theorem dX11_quiet_49 : decode cX11_quiet 49 = .ok (.iload 4, 2) := by decide +kernel
theorem dX11_quiet_51 : decode cX11_quiet 51 = .ok (.iload 5, 2) := by decide +kernel
theorem dX11_quiet_53 : decode cX11_quiet 53 = .ok (.iconst 1, 1) := by decide +kernel
theorem dX11_quiet_54 : decode cX11_quiet 54 = .ok (.iadd, 1) := by decide +kernel
theorem dX11_quiet_55 : decode cX11_quiet 55 = .ok (.iadd, 1) := by decide +kernel
theorem dX11_quiet_56 : decode cX11_quiet 56 = .ok (.istore 4, 2) := by decide +kernel
theorem dX11_quiet_58 : decode cX11_quiet 58 = .ok (.goto (-38), 3) := by decide +kernel
theorem dX11_quiet_61 : decode cX11_quiet 61 = .ok (.iload_n 1, 1) := by decide +kernel
theorem dX11_quiet_62 : decode cX11_quiet 62 = .ok (.ifCond .ne 7, 3) := by decide +kernel
theorem dX11_quiet_65 : decode cX11_quiet 65 = .ok (.iload_n 2, 1) := by decide +kernel
theorem dX11_quiet_66 : decode cX11_quiet 66 = .ok (.goto 4, 3) := by decide +kernel
theorem dX11_quiet_69 : decode cX11_quiet 69 = .ok (.iload_n 3, 1) := by decide +kernel
theorem dX11_quiet_70 : decode cX11_quiet 70 = .ok (.ireturn, 1) := by decide +kernel
theorem dX11_together_0 : decode cX11_together 0 = .ok (.iconst 0, 1) := by decide +kernel
theorem dX11_together_1 : decode cX11_together 1 = .ok (.istore_n 3, 1) := by decide +kernel
theorem dX11_together_2 : decode cX11_together 2 = .ok (.iconst 0, 1) := by decide +kernel
theorem dX11_together_3 : decode cX11_together 3 = .ok (.istore 4, 2) := by decide +kernel
theorem dX11_together_5 : decode cX11_together 5 = .ok (.iload 4, 2) := by decide +kernel
theorem dX11_together_7 : decode cX11_together 7 = .ok (.aload_n 0, 1) := by decide +kernel
theorem dX11_together_8 : decode cX11_together 8 = .ok (.getfield 380, 3) := by decide +kernel
theorem dX11_together_11 : decode cX11_together 11 = .ok (.if_icmp .ge 45, 3) := by decide +kernel
theorem dX11_together_14 : decode cX11_together 14 = .ok (.iload_n 3, 1) := by decide +kernel
theorem dX11_together_15 : decode cX11_together 15 = .ok (.aload_n 0, 1) := by decide +kernel
theorem dX11_together_16 : decode cX11_together 16 = .ok (.iload_n 1, 1) := by decide +kernel
theorem dX11_together_17 : decode cX11_together 17 = .ok (.iload 4, 2) := by decide +kernel
theorem dX11_together_19 : decode cX11_together 19 = .ok (.iload_n 2, 1) := by decide +kernel
theorem dX11_together_20 : decode cX11_together 20 = .ok (.iadd, 1) := by decide +kernel
theorem dX11_together_21 : decode cX11_together 21 = .ok (.invokevirtual 132, 3) := by decide +kernel
theorem dX11_together_24 : decode cX11_together 24 = .ok (.ifCond .eq 23, 3) := by decide +kernel
theorem dX11_together_27 : decode cX11_together 27 = .ok (.aload_n 0, 1) := by decide +kernel
theorem dX11_together_28 : decode cX11_together 28 = .ok (.getfield 75, 3) := by decide +kernel
theorem dX11_together_31 : decode cX11_together 31 = .ok (.iload 4, 2) := by decide +kernel
theorem dX11_together_33 : decode cX11_together 33 = .ok (.iaload, 1) := by decide +kernel
theorem dX11_together_34 : decode cX11_together 34 = .ok (.iconst 1, 1) := by decide +kernel
theorem dX11_together_35 : decode cX11_together 35 = .ok (.iload_n 1, 1) := by decide +kernel
theorem dX11_together_36 : decode cX11_together 36 = .ok (.ishl, 1) := by decide +kernel
theorem dX11_together_37 : decode cX11_together 37 = .ok (.iconst (-1), 1) := by decide +kernel
theorem dX11_together_38 : decode cX11_together 38 = .ok (.ixor, 1) := by decide +kernel
theorem dX11_together_39 : decode cX11_together 39 = .ok (.iand, 1) := by decide +kernel
theorem dX11_together_40 : decode cX11_together 40 = .ok (.ifCond .eq 7, 3) := by decide +kernel
theorem dX11_together_43 : decode cX11_together 43 = .ok (.iconst 1, 1) := by decide +kernel
theorem dX11_together_44 : decode cX11_together 44 = .ok (.goto 4, 3) := by decide +kernel
theorem dX11_together_47 : decode cX11_together 47 = .ok (.iconst 0, 1) := by decide +kernel
theorem dX11_together_48 : decode cX11_together 48 = .ok (.iadd, 1) := by decide +kernel
theorem dX11_together_49 : decode cX11_together 49 = .ok (.istore_n 3, 1) := by decide +kernel
theorem dX11_together_50 : decode cX11_together 50 = .ok (.iinc 4 1, 3) := by decide +kernel
theorem dX11_together_53 : decode cX11_together 53 = .ok (.goto (-48), 3) := by decide +kernel
theorem dX11_together_56 : decode cX11_together 56 = .ok (.iload_n 3, 1) := by decide +kernel
theorem dX11_together_57 : decode cX11_together 57 = .ok (.ireturn, 1) := by decide +kernel
theorem dX11_most_0 : decode cX11_most 0 = .ok (.aload_n 0, 1) := by decide +kernel
theorem dX11_most_1 : decode cX11_most 1 = .ok (.iload_n 1, 1) := by decide +kernel
theorem dX11_most_2 : decode cX11_most 2 = .ok (.invokevirtual 128, 3) := by decide +kernel
theorem dX11_most_5 : decode cX11_most 5 = .ok (.ifCond .eq 10, 3) := by decide +kernel
theorem dX11_most_8 : decode cX11_most 8 = .ok (.iload_n 2, 1) := by decide +kernel
theorem dX11_most_9 : decode cX11_most 9 = .ok (.invokestatic 392, 3) := by decide +kernel
theorem dX11_most_12 : decode cX11_most 12 = .ok (.ifCond .ne 5, 3) := by decide +kernel
theorem dX11_most_15 : decode cX11_most 15 = .ok (.iconst (-1), 1) := by decide +kernel
theorem dX11_most_16 : decode cX11_most 16 = .ok (.ireturn, 1) := by decide +kernel
theorem dX11_most_17 : decode cX11_most 17 = .ok (.aload_n 0, 1) := by decide +kernel
theorem dX11_most_18 : decode cX11_most 18 = .ok (.invokevirtual 383, 3) := by decide +kernel
theorem dX11_most_21 : decode cX11_most 21 = .ok (.iconst (-1), 1) := by decide +kernel
theorem dX11_most_22 : decode cX11_most 22 = .ok (.istore_n 3, 1) := by decide +kernel
theorem dX11_most_23 : decode cX11_most 23 = .ok (.iconst 0, 1) := by decide +kernel
theorem dX11_most_24 : decode cX11_most 24 = .ok (.istore 4, 2) := by decide +kernel
theorem dX11_most_26 : decode cX11_most 26 = .ok (.iconst 0, 1) := by decide +kernel
theorem dX11_most_27 : decode cX11_most 27 = .ok (.istore 5, 2) := by decide +kernel
theorem dX11_most_29 : decode cX11_most 29 = .ok (.iload 5, 2) := by decide +kernel
theorem dX11_most_31 : decode cX11_most 31 = .ok (.aload_n 0, 1) := by decide +kernel
theorem dX11_most_32 : decode cX11_most 32 = .ok (.getfield 28, 3) := by decide +kernel
theorem dX11_most_35 : decode cX11_most 35 = .ok (.bipush 19, 2) := by decide +kernel
theorem dX11_most_37 : decode cX11_most 37 = .ok (.iload_n 1, 1) := by decide +kernel
theorem dX11_most_38 : decode cX11_most 38 = .ok (.iadd, 1) := by decide +kernel
theorem dX11_most_39 : decode cX11_most 39 = .ok (.iaload, 1) := by decide +kernel
theorem dX11_most_40 : decode cX11_most 40 = .ok (.if_icmp .ge 34, 3) := by decide +kernel
theorem dX11_most_43 : decode cX11_most 43 = .ok (.aload_n 0, 1) := by decide +kernel
theorem dX11_most_44 : decode cX11_most 44 = .ok (.iload_n 1, 1) := by decide +kernel
theorem dX11_most_45 : decode cX11_most 45 = .ok (.iload 5, 2) := by decide +kernel
theorem dX11_most_47 : decode cX11_most 47 = .ok (.invokevirtual 398, 3) := by decide +kernel
theorem dX11_most_50 : decode cX11_most 50 = .ok (.istore 6, 2) := by decide +kernel
theorem dX11_most_52 : decode cX11_most 52 = .ok (.iload 6, 2) := by decide +kernel
theorem dX11_most_54 : decode cX11_most 54 = .ok (.iload_n 3, 1) := by decide +kernel
theorem dX11_most_55 : decode cX11_most 55 = .ok (.if_icmp .gt 6, 3) := by decide +kernel
theorem dX11_most_58 : decode cX11_most 58 = .ok (.goto 10, 3) := by decide +kernel
theorem dX11_most_61 : decode cX11_most 61 = .ok (.iload 6, 2) := by decide +kernel
theorem dX11_most_63 : decode cX11_most 63 = .ok (.istore_n 3, 1) := by decide +kernel
theorem dX11_most_64 : decode cX11_most 64 = .ok (.iload 5, 2) := by decide +kernel
theorem dX11_most_66 : decode cX11_most 66 = .ok (.istore 4, 2) := by decide +kernel
theorem dX11_most_68 : decode cX11_most 68 = .ok (.iinc 5 1, 3) := by decide +kernel
theorem dX11_most_71 : decode cX11_most 71 = .ok (.goto (-42), 3) := by decide +kernel
theorem dX11_most_74 : decode cX11_most 74 = .ok (.iload_n 2, 1) := by decide +kernel
theorem dX11_most_75 : decode cX11_most 75 = .ok (.ifCond .ne 8, 3) := by decide +kernel
theorem dX11_most_78 : decode cX11_most 78 = .ok (.iload 4, 2) := by decide +kernel
theorem dX11_most_80 : decode cX11_most 80 = .ok (.goto 4, 3) := by decide +kernel
theorem dX11_most_83 : decode cX11_most 83 = .ok (.iload_n 3, 1) := by decide +kernel
theorem dX11_most_84 : decode cX11_most 84 = .ok (.ireturn, 1) := by decide +kernel
theorem dX11_least_0 : decode cX11_least 0 = .ok (.aload_n 0, 1) := by decide +kernel
theorem dX11_least_1 : decode cX11_least 1 = .ok (.iload_n 1, 1) := by decide +kernel
theorem dX11_least_2 : decode cX11_least 2 = .ok (.invokevirtual 128, 3) := by decide +kernel
theorem dX11_least_5 : decode cX11_least 5 = .ok (.ifCond .eq 10, 3) := by decide +kernel
theorem dX11_least_8 : decode cX11_least 8 = .ok (.iload_n 2, 1) := by decide +kernel
theorem dX11_least_9 : decode cX11_least 9 = .ok (.invokestatic 392, 3) := by decide +kernel
theorem dX11_least_12 : decode cX11_least 12 = .ok (.ifCond .ne 5, 3) := by decide +kernel
theorem dX11_least_15 : decode cX11_least 15 = .ok (.iconst (-1), 1) := by decide +kernel
theorem dX11_least_16 : decode cX11_least 16 = .ok (.ireturn, 1) := by decide +kernel
theorem dX11_least_17 : decode cX11_least 17 = .ok (.aload_n 0, 1) := by decide +kernel
theorem dX11_least_18 : decode cX11_least 18 = .ok (.invokevirtual 383, 3) := by decide +kernel
theorem dX11_least_21 : decode cX11_least 21 = .ok (.ldc 169, 2) := by decide +kernel
theorem dX11_least_23 : decode cX11_least 23 = .ok (.istore_n 3, 1) := by decide +kernel
theorem dX11_least_24 : decode cX11_least 24 = .ok (.iconst 0, 1) := by decide +kernel
theorem dX11_least_25 : decode cX11_least 25 = .ok (.istore 4, 2) := by decide +kernel
theorem dX11_least_27 : decode cX11_least 27 = .ok (.iconst 0, 1) := by decide +kernel
theorem dX11_least_28 : decode cX11_least 28 = .ok (.istore 5, 2) := by decide +kernel
theorem dX11_least_30 : decode cX11_least 30 = .ok (.iload 5, 2) := by decide +kernel
theorem dX11_least_32 : decode cX11_least 32 = .ok (.aload_n 0, 1) := by decide +kernel
theorem dX11_least_33 : decode cX11_least 33 = .ok (.getfield 28, 3) := by decide +kernel
theorem dX11_least_36 : decode cX11_least 36 = .ok (.bipush 19, 2) := by decide +kernel
theorem dX11_least_38 : decode cX11_least 38 = .ok (.iload_n 1, 1) := by decide +kernel
theorem dX11_least_39 : decode cX11_least 39 = .ok (.iadd, 1) := by decide +kernel
theorem dX11_least_40 : decode cX11_least 40 = .ok (.iaload, 1) := by decide +kernel
theorem dX11_least_41 : decode cX11_least 41 = .ok (.if_icmp .ge 34, 3) := by decide +kernel
theorem dX11_least_44 : decode cX11_least 44 = .ok (.aload_n 0, 1) := by decide +kernel
theorem dX11_least_45 : decode cX11_least 45 = .ok (.iload_n 1, 1) := by decide +kernel
theorem dX11_least_46 : decode cX11_least 46 = .ok (.iload 5, 2) := by decide +kernel
theorem dX11_least_48 : decode cX11_least 48 = .ok (.invokevirtual 398, 3) := by decide +kernel
theorem dX11_least_51 : decode cX11_least 51 = .ok (.istore 6, 2) := by decide +kernel
theorem dX11_least_53 : decode cX11_least 53 = .ok (.iload 6, 2) := by decide +kernel
theorem dX11_least_55 : decode cX11_least 55 = .ok (.iload_n 3, 1) := by decide +kernel
theorem dX11_least_56 : decode cX11_least 56 = .ok (.if_icmp .lt 6, 3) := by decide +kernel
theorem dX11_least_59 : decode cX11_least 59 = .ok (.goto 10, 3) := by decide +kernel
theorem dX11_least_62 : decode cX11_least 62 = .ok (.iload 6, 2) := by decide +kernel
theorem dX11_least_64 : decode cX11_least 64 = .ok (.istore_n 3, 1) := by decide +kernel
theorem dX11_least_65 : decode cX11_least 65 = .ok (.iload 5, 2) := by decide +kernel
theorem dX11_least_67 : decode cX11_least 67 = .ok (.istore 4, 2) := by decide +kernel
theorem dX11_least_69 : decode cX11_least 69 = .ok (.iinc 5 1, 3) := by decide +kernel
theorem dX11_least_72 : decode cX11_least 72 = .ok (.goto (-42), 3) := by decide +kernel
theorem dX11_least_75 : decode cX11_least 75 = .ok (.iload_n 2, 1) := by decide +kernel
theorem dX11_least_76 : decode cX11_least 76 = .ok (.ifCond .ne 8, 3) := by decide +kernel
theorem dX11_least_79 : decode cX11_least 79 = .ok (.iload 4, 2) := by decide +kernel
theorem dX11_least_81 : decode cX11_least 81 = .ok (.goto 4, 3) := by decide +kernel
theorem dX11_least_84 : decode cX11_least 84 = .ok (.iload_n 3, 1) := by decide +kernel
theorem dX11_least_85 : decode cX11_least 85 = .ok (.ireturn, 1) := by decide +kernel
theorem dX11_laysStrike_0 : decode cX11_laysStrike 0 = .ok (.aload_n 0, 1) := by decide +kernel
theorem dX11_laysStrike_1 : decode cX11_laysStrike 1 = .ok (.invokevirtual 383, 3) := by decide +kernel
theorem dX11_laysStrike_4 : decode cX11_laysStrike 4 = .ok (.iconst 0, 1) := by decide +kernel
theorem dX11_laysStrike_5 : decode cX11_laysStrike 5 = .ok (.istore_n 1, 1) := by decide +kernel
theorem dX11_laysStrike_6 : decode cX11_laysStrike 6 = .ok (.iload_n 1, 1) := by decide +kernel
theorem dX11_laysStrike_7 : decode cX11_laysStrike 7 = .ok (.bipush 64, 2) := by decide +kernel
theorem dX11_laysStrike_9 : decode cX11_laysStrike 9 = .ok (.if_icmp .ge 16, 3) := by decide +kernel
theorem dX11_laysStrike_12 : decode cX11_laysStrike 12 = .ok (.aload_n 0, 1) := by decide +kernel
theorem dX11_laysStrike_13 : decode cX11_laysStrike 13 = .ok (.getfield 84, 3) := by decide +kernel
theorem dX11_laysStrike_16 : decode cX11_laysStrike 16 = .ok (.iload_n 1, 1) := by decide +kernel
theorem dX11_laysStrike_17 : decode cX11_laysStrike 17 = .ok (.iconst 0, 1) := by decide +kernel
theorem dX11_laysStrike_18 : decode cX11_laysStrike 18 = .ok (.bastore, 1) := by decide +kernel
theorem dX11_laysStrike_19 : decode cX11_laysStrike 19 = .ok (.iinc 1 1, 3) := by decide +kernel
theorem dX11_laysStrike_22 : decode cX11_laysStrike 22 = .ok (.goto (-16), 3) := by decide +kernel
theorem dX11_laysStrike_25 : decode cX11_laysStrike 25 = .ok (.iconst 0, 1) := by decide +kernel
theorem dX11_laysStrike_26 : decode cX11_laysStrike 26 = .ok (.istore_n 1, 1) := by decide +kernel
theorem dX11_laysStrike_27 : decode cX11_laysStrike 27 = .ok (.iload_n 1, 1) := by decide +kernel
theorem dX11_laysStrike_28 : decode cX11_laysStrike 28 = .ok (.aload_n 0, 1) := by decide +kernel
theorem dX11_laysStrike_29 : decode cX11_laysStrike 29 = .ok (.getfield 380, 3) := by decide +kernel
theorem dX11_laysStrike_32 : decode cX11_laysStrike 32 = .ok (.if_icmp .ge 21, 3) := by decide +kernel
theorem dX11_laysStrike_35 : decode cX11_laysStrike 35 = .ok (.aload_n 0, 1) := by decide +kernel
theorem dX11_laysStrike_36 : decode cX11_laysStrike 36 = .ok (.getfield 84, 3) := by decide +kernel
theorem dX11_laysStrike_39 : decode cX11_laysStrike 39 = .ok (.aload_n 0, 1) := by decide +kernel
theorem dX11_laysStrike_40 : decode cX11_laysStrike 40 = .ok (.getfield 75, 3) := by decide +kernel
theorem dX11_laysStrike_43 : decode cX11_laysStrike 43 = .ok (.iload_n 1, 1) := by decide +kernel
theorem dX11_laysStrike_44 : decode cX11_laysStrike 44 = .ok (.iaload, 1) := by decide +kernel
theorem dX11_laysStrike_45 : decode cX11_laysStrike 45 = .ok (.iconst 1, 1) := by decide +kernel
theorem dX11_laysStrike_46 : decode cX11_laysStrike 46 = .ok (.bastore, 1) := by decide +kernel
theorem dX11_laysStrike_47 : decode cX11_laysStrike 47 = .ok (.iinc 1 1, 3) := by decide +kernel
theorem dX11_laysStrike_50 : decode cX11_laysStrike 50 = .ok (.goto (-23), 3) := by decide +kernel
theorem dX11_laysStrike_53 : decode cX11_laysStrike 53 = .ok (.iconst 0, 1) := by decide +kernel
theorem dX11_laysStrike_54 : decode cX11_laysStrike 54 = .ok (.istore_n 1, 1) := by decide +kernel
theorem dX11_laysStrike_55 : decode cX11_laysStrike 55 = .ok (.iload_n 1, 1) := by decide +kernel
theorem dX11_laysStrike_56 : decode cX11_laysStrike 56 = .ok (.bipush 6, 2) := by decide +kernel
theorem dX11_laysStrike_58 : decode cX11_laysStrike 58 = .ok (.if_icmp .ge 56, 3) := by decide +kernel
theorem dX11_laysStrike_61 : decode cX11_laysStrike 61 = .ok (.iconst 0, 1) := by decide +kernel
theorem dX11_laysStrike_62 : decode cX11_laysStrike 62 = .ok (.istore_n 2, 1) := by decide +kernel
theorem dX11_laysStrike_63 : decode cX11_laysStrike 63 = .ok (.iload_n 2, 1) := by decide +kernel
theorem dX11_laysStrike_64 : decode cX11_laysStrike 64 = .ok (.bipush 64, 2) := by decide +kernel
theorem dX11_laysStrike_66 : decode cX11_laysStrike 66 = .ok (.if_icmp .ge 42, 3) := by decide +kernel
theorem dX11_laysStrike_69 : decode cX11_laysStrike 69 = .ok (.aload_n 0, 1) := by decide +kernel
theorem dX11_laysStrike_70 : decode cX11_laysStrike 70 = .ok (.getfield 84, 3) := by decide +kernel
theorem dX11_laysStrike_73 : decode cX11_laysStrike 73 = .ok (.iload_n 2, 1) := by decide +kernel
theorem dX11_laysStrike_74 : decode cX11_laysStrike 74 = .ok (.aload_n 0, 1) := by decide +kernel
theorem dX11_laysStrike_75 : decode cX11_laysStrike 75 = .ok (.getfield 84, 3) := by decide +kernel
theorem dX11_laysStrike_78 : decode cX11_laysStrike 78 = .ok (.iload_n 2, 1) := by decide +kernel
theorem dX11_laysStrike_79 : decode cX11_laysStrike 79 = .ok (.baload, 1) := by decide +kernel
theorem dX11_laysStrike_80 : decode cX11_laysStrike 80 = .ok (.ifCond .ne 16, 3) := by decide +kernel
theorem dX11_laysStrike_83 : decode cX11_laysStrike 83 = .ok (.aload_n 0, 1) := by decide +kernel
theorem dX11_laysStrike_84 : decode cX11_laysStrike 84 = .ok (.getfield 84, 3) := by decide +kernel
theorem dX11_laysStrike_87 : decode cX11_laysStrike 87 = .ok (.iload_n 2, 1) := by decide +kernel
theorem dX11_laysStrike_88 : decode cX11_laysStrike 88 = .ok (.iconst 1, 1) := by decide +kernel
theorem dX11_laysStrike_89 : decode cX11_laysStrike 89 = .ok (.iload_n 1, 1) := by decide +kernel
theorem dX11_laysStrike_90 : decode cX11_laysStrike 90 = .ok (.ishl, 1) := by decide +kernel
theorem dX11_laysStrike_91 : decode cX11_laysStrike 91 = .ok (.ior, 1) := by decide +kernel
theorem dX11_laysStrike_92 : decode cX11_laysStrike 92 = .ok (.baload, 1) := by decide +kernel
theorem dX11_laysStrike_93 : decode cX11_laysStrike 93 = .ok (.ifCond .eq 7, 3) := by decide +kernel
theorem dX11_laysStrike_96 : decode cX11_laysStrike 96 = .ok (.iconst 1, 1) := by decide +kernel
theorem dX11_laysStrike_97 : decode cX11_laysStrike 97 = .ok (.goto 4, 3) := by decide +kernel
theorem dX11_laysStrike_100 : decode cX11_laysStrike 100 = .ok (.iconst 0, 1) := by decide +kernel
theorem dX11_laysStrike_101 : decode cX11_laysStrike 101 = .ok (.bastore, 1) := by decide +kernel
theorem dX11_laysStrike_102 : decode cX11_laysStrike 102 = .ok (.iinc 2 1, 3) := by decide +kernel
theorem dX11_laysStrike_105 : decode cX11_laysStrike 105 = .ok (.goto (-42), 3) := by decide +kernel
theorem dX11_laysStrike_108 : decode cX11_laysStrike 108 = .ok (.iinc 1 1, 3) := by decide +kernel
theorem dX11_laysStrike_111 : decode cX11_laysStrike 111 = .ok (.goto (-56), 3) := by decide +kernel
theorem dX11_laysStrike_114 : decode cX11_laysStrike 114 = .ok (.return_, 1) := by decide +kernel
theorem dX11_never_0 : decode cX11_never 0 = .ok (.iload_n 1, 1) := by decide +kernel
theorem dX11_never_1 : decode cX11_never 1 = .ok (.invokestatic 392, 3) := by decide +kernel
theorem dX11_never_4 : decode cX11_never 4 = .ok (.ifCond .ne 5, 3) := by decide +kernel
theorem dX11_never_7 : decode cX11_never 7 = .ok (.iconst (-1), 1) := by decide +kernel
theorem dX11_never_8 : decode cX11_never 8 = .ok (.ireturn, 1) := by decide +kernel
theorem dX11_never_9 : decode cX11_never 9 = .ok (.aload_n 0, 1) := by decide +kernel
theorem dX11_never_10 : decode cX11_never 10 = .ok (.invokevirtual 401, 3) := by decide +kernel
theorem dX11_never_13 : decode cX11_never 13 = .ok (.iconst (-1), 1) := by decide +kernel
theorem dX11_never_14 : decode cX11_never 14 = .ok (.istore_n 2, 1) := by decide +kernel
theorem dX11_never_15 : decode cX11_never 15 = .ok (.iconst 1, 1) := by decide +kernel
theorem dX11_never_16 : decode cX11_never 16 = .ok (.istore_n 3, 1) := by decide +kernel
theorem dX11_never_17 : decode cX11_never 17 = .ok (.iload_n 3, 1) := by decide +kernel
theorem dX11_never_18 : decode cX11_never 18 = .ok (.iconst 1, 1) := by decide +kernel
theorem dX11_never_19 : decode cX11_never 19 = .ok (.aload_n 0, 1) := by decide +kernel
theorem dX11_never_20 : decode cX11_never 20 = .ok (.invokevirtual 112, 3) := by decide +kernel
theorem dX11_never_23 : decode cX11_never 23 = .ok (.ishl, 1) := by decide +kernel
theorem dX11_never_24 : decode cX11_never 24 = .ok (.if_icmp .ge 36, 3) := by decide +kernel
theorem dX11_never_27 : decode cX11_never 27 = .ok (.aload_n 0, 1) := by decide +kernel
theorem dX11_never_28 : decode cX11_never 28 = .ok (.getfield 84, 3) := by decide +kernel
theorem dX11_never_31 : decode cX11_never 31 = .ok (.iload_n 3, 1) := by decide +kernel
theorem dX11_never_32 : decode cX11_never 32 = .ok (.baload, 1) := by decide +kernel
theorem dX11_never_33 : decode cX11_never 33 = .ok (.ifCond .ne 21, 3) := by decide +kernel
theorem dX11_never_36 : decode cX11_never 36 = .ok (.iload_n 2, 1) := by decide +kernel
theorem dX11_never_37 : decode cX11_never 37 = .ok (.iconst (-1), 1) := by decide +kernel
theorem dX11_never_38 : decode cX11_never 38 = .ok (.if_icmp .eq 14, 3) := by decide +kernel
theorem dX11_never_41 : decode cX11_never 41 = .ok (.iload_n 3, 1) := by decide +kernel
theorem dX11_never_42 : decode cX11_never 42 = .ok (.invokestatic 299, 3) := by decide +kernel
theorem dX11_never_45 : decode cX11_never 45 = .ok (.iload_n 2, 1) := by decide +kernel
theorem dX11_never_46 : decode cX11_never 46 = .ok (.invokestatic 299, 3) := by decide +kernel
theorem dX11_never_49 : decode cX11_never 49 = .ok (.if_icmp .ge 5, 3) := by decide +kernel
theorem dX11_never_52 : decode cX11_never 52 = .ok (.iload_n 3, 1) := by decide +kernel
theorem dX11_never_53 : decode cX11_never 53 = .ok (.istore_n 2, 1) := by decide +kernel
theorem dX11_never_54 : decode cX11_never 54 = .ok (.iinc 3 1, 3) := by decide +kernel
theorem dX11_never_57 : decode cX11_never 57 = .ok (.goto (-40), 3) := by decide +kernel
theorem dX11_never_60 : decode cX11_never 60 = .ok (.iload_n 2, 1) := by decide +kernel
theorem dX11_never_61 : decode cX11_never 61 = .ok (.iconst (-1), 1) := by decide +kernel
theorem dX11_never_62 : decode cX11_never 62 = .ok (.if_icmp .eq 8, 3) := by decide +kernel
theorem dX11_never_65 : decode cX11_never 65 = .ok (.iload_n 1, 1) := by decide +kernel
theorem dX11_never_66 : decode cX11_never 66 = .ok (.iconst 1, 1) := by decide +kernel
theorem dX11_never_67 : decode cX11_never 67 = .ok (.if_icmp .ne 7, 3) := by decide +kernel
theorem dX11_never_70 : decode cX11_never 70 = .ok (.iload_n 2, 1) := by decide +kernel
theorem dX11_never_71 : decode cX11_never 71 = .ok (.goto 7, 3) := by decide +kernel
theorem dX11_never_74 : decode cX11_never 74 = .ok (.iload_n 2, 1) := by decide +kernel
theorem dX11_never_75 : decode cX11_never 75 = .ok (.invokestatic 299, 3) := by decide +kernel
theorem dX11_never_78 : decode cX11_never 78 = .ok (.ireturn, 1) := by decide +kernel
theorem dX11_lacks_0 : decode cX11_lacks 0 = .ok (.iconst 0, 1) := by decide +kernel
theorem dX11_lacks_1 : decode cX11_lacks 1 = .ok (.istore_n 3, 1) := by decide +kernel
theorem dX11_lacks_2 : decode cX11_lacks 2 = .ok (.iconst 0, 1) := by decide +kernel
theorem dX11_lacks_3 : decode cX11_lacks 3 = .ok (.istore 4, 2) := by decide +kernel
theorem dX11_lacks_5 : decode cX11_lacks 5 = .ok (.iload 4, 2) := by decide +kernel
theorem dX11_lacks_7 : decode cX11_lacks 7 = .ok (.aload_n 0, 1) := by decide +kernel
theorem dX11_lacks_8 : decode cX11_lacks 8 = .ok (.invokevirtual 112, 3) := by decide +kernel
theorem dX11_lacks_11 : decode cX11_lacks 11 = .ok (.if_icmp .ge 70, 3) := by decide +kernel
theorem dX11_lacks_14 : decode cX11_lacks 14 = .ok (.iload_n 1, 1) := by decide +kernel
theorem dX11_lacks_15 : decode cX11_lacks 15 = .ok (.iload 4, 2) := by decide +kernel
theorem dX11_lacks_17 : decode cX11_lacks 17 = .ok (.invokestatic 116, 3) := by decide +kernel
theorem dX11_lacks_20 : decode cX11_lacks 20 = .ok (.ifCond .eq 55, 3) := by decide +kernel
theorem dX11_lacks_23 : decode cX11_lacks 23 = .ok (.aload_n 0, 1) := by decide +kernel
theorem dX11_lacks_24 : decode cX11_lacks 24 = .ok (.iload 4, 2) := by decide +kernel
theorem dX11_lacks_26 : decode cX11_lacks 26 = .ok (.iload_n 2, 1) := by decide +kernel
theorem dX11_lacks_27 : decode cX11_lacks 27 = .ok (.invokevirtual 132, 3) := by decide +kernel
theorem dX11_lacks_30 : decode cX11_lacks 30 = .ok (.ifCond .eq 6, 3) := by decide +kernel
theorem dX11_lacks_33 : decode cX11_lacks 33 = .ok (.goto 42, 3) := by decide +kernel
theorem dX11_lacks_36 : decode cX11_lacks 36 = .ok (.aload_n 0, 1) := by decide +kernel
theorem dX11_lacks_37 : decode cX11_lacks 37 = .ok (.getfield 87, 3) := by decide +kernel
theorem dX11_lacks_40 : decode cX11_lacks 40 = .ok (.bipush 12, 2) := by decide +kernel
theorem dX11_lacks_42 : decode cX11_lacks 42 = .ok (.iload 4, 2) := by decide +kernel
theorem dX11_lacks_44 : decode cX11_lacks 44 = .ok (.imul, 1) := by decide +kernel
theorem dX11_lacks_45 : decode cX11_lacks 45 = .ok (.aload_n 0, 1) := by decide +kernel
theorem dX11_lacks_46 : decode cX11_lacks 46 = .ok (.iload 4, 2) := by decide +kernel
theorem dX11_lacks_48 : decode cX11_lacks 48 = .ok (.iload_n 2, 1) := by decide +kernel
theorem dX11_lacks_49 : decode cX11_lacks 49 = .ok (.invokevirtual 338, 3) := by decide +kernel
theorem dX11_lacks_52 : decode cX11_lacks 52 = .ok (.iadd, 1) := by decide +kernel
theorem dX11_lacks_53 : decode cX11_lacks 53 = .ok (.baload, 1) := by decide +kernel
theorem dX11_lacks_54 : decode cX11_lacks 54 = .ok (.ifCond .eq 8, 3) := by decide +kernel
theorem dX11_lacks_57 : decode cX11_lacks 57 = .ok (.ldc 169, 2) := by decide +kernel
theorem dX11_lacks_59 : decode cX11_lacks 59 = .ok (.goto 6, 3) := by decide +kernel
theorem dX11_lacks_62 : decode cX11_lacks 62 = .ok (.iload_n 3, 1) := by decide +kernel
theorem dX11_lacks_63 : decode cX11_lacks 63 = .ok (.iconst 1, 1) := by decide +kernel
theorem dX11_lacks_64 : decode cX11_lacks 64 = .ok (.iadd, 1) := by decide +kernel
theorem dX11_lacks_65 : decode cX11_lacks 65 = .ok (.istore_n 3, 1) := by decide +kernel
theorem dX11_lacks_66 : decode cX11_lacks 66 = .ok (.iload_n 3, 1) := by decide +kernel
theorem dX11_lacks_67 : decode cX11_lacks 67 = .ok (.ldc 169, 2) := by decide +kernel
theorem dX11_lacks_69 : decode cX11_lacks 69 = .ok (.if_icmp .lt 6, 3) := by decide +kernel
theorem dX11_lacks_72 : decode cX11_lacks 72 = .ok (.ldc 169, 2) := by decide +kernel
theorem dX11_lacks_74 : decode cX11_lacks 74 = .ok (.ireturn, 1) := by decide +kernel
theorem dX11_lacks_75 : decode cX11_lacks 75 = .ok (.iinc 4 1, 3) := by decide +kernel
theorem dX11_lacks_78 : decode cX11_lacks 78 = .ok (.goto (-73), 3) := by decide +kernel
theorem dX11_lacks_81 : decode cX11_lacks 81 = .ok (.iload_n 3, 1) := by decide +kernel
theorem dX11_lacks_82 : decode cX11_lacks 82 = .ok (.ireturn, 1) := by decide +kernel
theorem dX11_add_0 : decode cX11_add 0 = .ok (.aload_n 0, 1) := by decide +kernel
theorem dX11_add_1 : decode cX11_add 1 = .ok (.iload_n 1, 1) := by decide +kernel
theorem dX11_add_2 : decode cX11_add 2 = .ok (.invokevirtual 386, 3) := by decide +kernel
theorem dX11_add_5 : decode cX11_add 5 = .ok (.ifCond .eq 14, 3) := by decide +kernel
theorem dX11_add_8 : decode cX11_add 8 = .ok (.iload_n 1, 1) := by decide +kernel
theorem dX11_add_9 : decode cX11_add 9 = .ok (.ifCond .eq 10, 3) := by decide +kernel
theorem dX11_add_12 : decode cX11_add 12 = .ok (.iload_n 2, 1) := by decide +kernel
theorem dX11_add_13 : decode cX11_add 13 = .ok (.invokestatic 392, 3) := by decide +kernel
theorem dX11_add_16 : decode cX11_add 16 = .ok (.ifCond .ne 5, 3) := by decide +kernel
theorem dX11_add_19 : decode cX11_add 19 = .ok (.iconst (-1), 1) := by decide +kernel
theorem dX11_add_20 : decode cX11_add 20 = .ok (.ireturn, 1) := by decide +kernel
theorem dX11_add_21 : decode cX11_add 21 = .ok (.iconst 0, 1) := by decide +kernel
theorem dX11_add_22 : decode cX11_add 22 = .ok (.istore_n 3, 1) := by decide +kernel
theorem dX11_add_23 : decode cX11_add 23 = .ok (.iload_n 3, 1) := by decide +kernel
theorem dX11_add_24 : decode cX11_add 24 = .ok (.aload_n 0, 1) := by decide +kernel
theorem dX11_add_25 : decode cX11_add 25 = .ok (.invokevirtual 112, 3) := by decide +kernel
theorem dX11_add_28 : decode cX11_add 28 = .ok (.if_icmp .ge 70, 3) := by decide +kernel
theorem dX11_add_31 : decode cX11_add 31 = .ok (.iload_n 1, 1) := by decide +kernel
theorem dX11_add_32 : decode cX11_add 32 = .ok (.iload_n 3, 1) := by decide +kernel
theorem dX11_add_33 : decode cX11_add 33 = .ok (.invokestatic 116, 3) := by decide +kernel
theorem dX11_add_36 : decode cX11_add 36 = .ok (.ifCond .eq 13, 3) := by decide +kernel
theorem dX11_add_39 : decode cX11_add 39 = .ok (.aload_n 0, 1) := by decide +kernel
theorem dX11_add_40 : decode cX11_add 40 = .ok (.iload_n 3, 1) := by decide +kernel
theorem dX11_add_41 : decode cX11_add 41 = .ok (.invokevirtual 335, 3) := by decide +kernel
theorem dX11_add_44 : decode cX11_add 44 = .ok (.ifCond .eq 5, 3) := by decide +kernel
theorem dX11_add_47 : decode cX11_add 47 = .ok (.iconst (-1), 1) := by decide +kernel
theorem dX11_add_48 : decode cX11_add 48 = .ok (.ireturn, 1) := by decide +kernel
theorem dX11_add_49 : decode cX11_add 49 = .ok (.iconst 0, 1) := by decide +kernel
theorem dX11_add_50 : decode cX11_add 50 = .ok (.istore 4, 2) := by decide +kernel
theorem dX11_add_52 : decode cX11_add 52 = .ok (.iload 4, 2) := by decide +kernel
theorem dX11_add_54 : decode cX11_add 54 = .ok (.aload_n 0, 1) := by decide +kernel
theorem dX11_add_55 : decode cX11_add 55 = .ok (.getfield 28, 3) := by decide +kernel
theorem dX11_add_58 : decode cX11_add 58 = .ok (.bipush 19, 2) := by decide +kernel
theorem dX11_add_60 : decode cX11_add 60 = .ok (.iload_n 3, 1) := by decide +kernel
theorem dX11_add_61 : decode cX11_add 61 = .ok (.iadd, 1) := by decide +kernel
theorem dX11_add_62 : decode cX11_add 62 = .ok (.iaload, 1) := by decide +kernel
theorem dX11_add_63 : decode cX11_add 63 = .ok (.if_icmp .ge 29, 3) := by decide +kernel
theorem dX11_add_66 : decode cX11_add 66 = .ok (.aload_n 0, 1) := by decide +kernel
theorem dX11_add_67 : decode cX11_add 67 = .ok (.getfield 87, 3) := by decide +kernel
theorem dX11_add_70 : decode cX11_add 70 = .ok (.bipush 12, 2) := by decide +kernel
theorem dX11_add_72 : decode cX11_add 72 = .ok (.iload_n 3, 1) := by decide +kernel
theorem dX11_add_73 : decode cX11_add 73 = .ok (.imul, 1) := by decide +kernel
theorem dX11_add_74 : decode cX11_add 74 = .ok (.iload 4, 2) := by decide +kernel
theorem dX11_add_76 : decode cX11_add 76 = .ok (.iadd, 1) := by decide +kernel
theorem dX11_add_77 : decode cX11_add 77 = .ok (.aload_n 0, 1) := by decide +kernel
theorem dX11_add_78 : decode cX11_add 78 = .ok (.iconst 3, 1) := by decide +kernel
theorem dX11_add_79 : decode cX11_add 79 = .ok (.iload_n 3, 1) := by decide +kernel
theorem dX11_add_80 : decode cX11_add 80 = .ok (.iload 4, 2) := by decide +kernel
theorem dX11_add_82 : decode cX11_add 82 = .ok (.invokevirtual 142, 3) := by decide +kernel
theorem dX11_add_85 : decode cX11_add 85 = .ok (.bastore, 1) := by decide +kernel
theorem dX11_add_86 : decode cX11_add 86 = .ok (.iinc 4 1, 3) := by decide +kernel
theorem dX11_add_89 : decode cX11_add 89 = .ok (.goto (-37), 3) := by decide +kernel
theorem dX11_add_92 : decode cX11_add 92 = .ok (.iinc 3 1, 3) := by decide +kernel
theorem dX11_add_95 : decode cX11_add 95 = .ok (.goto (-72), 3) := by decide +kernel
theorem dX11_add_98 : decode cX11_add 98 = .ok (.aload_n 0, 1) := by decide +kernel
theorem dX11_add_99 : decode cX11_add 99 = .ok (.aload_n 0, 1) := by decide +kernel
theorem dX11_add_100 : decode cX11_add 100 = .ok (.invokevirtual 377, 3) := by decide +kernel
theorem dX11_add_103 : decode cX11_add 103 = .ok (.putfield 380, 3) := by decide +kernel
theorem dX11_add_106 : decode cX11_add 106 = .ok (.ldc 169, 2) := by decide +kernel
theorem dX11_add_108 : decode cX11_add 108 = .ok (.istore_n 3, 1) := by decide +kernel
theorem dX11_add_109 : decode cX11_add 109 = .ok (.iconst (-1), 1) := by decide +kernel
theorem dX11_add_110 : decode cX11_add 110 = .ok (.istore 4, 2) := by decide +kernel
theorem dX11_add_112 : decode cX11_add 112 = .ok (.iconst 0, 1) := by decide +kernel
theorem dX11_add_113 : decode cX11_add 113 = .ok (.istore 5, 2) := by decide +kernel
theorem dX11_add_115 : decode cX11_add 115 = .ok (.iload 5, 2) := by decide +kernel
theorem dX11_add_117 : decode cX11_add 117 = .ok (.aload_n 0, 1) := by decide +kernel
theorem dX11_add_118 : decode cX11_add 118 = .ok (.getfield 380, 3) := by decide +kernel
theorem dX11_add_121 : decode cX11_add 121 = .ok (.if_icmp .ge 34, 3) := by decide +kernel
theorem dX11_add_124 : decode cX11_add 124 = .ok (.aload_n 0, 1) := by decide +kernel
theorem dX11_add_125 : decode cX11_add 125 = .ok (.iload_n 1, 1) := by decide +kernel
theorem dX11_add_126 : decode cX11_add 126 = .ok (.iload 5, 2) := by decide +kernel
theorem dX11_add_128 : decode cX11_add 128 = .ok (.invokevirtual 404, 3) := by decide +kernel
theorem dX11_add_131 : decode cX11_add 131 = .ok (.istore 6, 2) := by decide +kernel
theorem dX11_add_133 : decode cX11_add 133 = .ok (.iload 6, 2) := by decide +kernel
theorem dX11_add_135 : decode cX11_add 135 = .ok (.iload_n 3, 1) := by decide +kernel
theorem dX11_add_136 : decode cX11_add 136 = .ok (.if_icmp .lt 6, 3) := by decide +kernel
theorem dX11_add_139 : decode cX11_add 139 = .ok (.goto 10, 3) := by decide +kernel
theorem dX11_add_142 : decode cX11_add 142 = .ok (.iload 6, 2) := by decide +kernel
theorem dX11_add_144 : decode cX11_add 144 = .ok (.istore_n 3, 1) := by decide +kernel
theorem dX11_add_145 : decode cX11_add 145 = .ok (.iload 5, 2) := by decide +kernel
theorem dX11_add_147 : decode cX11_add 147 = .ok (.istore 4, 2) := by decide +kernel
theorem dX11_add_149 : decode cX11_add 149 = .ok (.iinc 5 1, 3) := by decide +kernel
theorem dX11_add_152 : decode cX11_add 152 = .ok (.goto (-37), 3) := by decide +kernel
theorem dX11_add_155 : decode cX11_add 155 = .ok (.iload 4, 2) := by decide +kernel
theorem dX11_add_157 : decode cX11_add 157 = .ok (.iconst (-1), 1) := by decide +kernel
theorem dX11_add_158 : decode cX11_add 158 = .ok (.if_icmp .eq 8, 3) := by decide +kernel
theorem dX11_add_161 : decode cX11_add 161 = .ok (.iload_n 2, 1) := by decide +kernel
theorem dX11_add_162 : decode cX11_add 162 = .ok (.iconst 1, 1) := by decide +kernel
theorem dX11_add_163 : decode cX11_add 163 = .ok (.if_icmp .ne 8, 3) := by decide +kernel
theorem dX11_add_166 : decode cX11_add 166 = .ok (.iload 4, 2) := by decide +kernel
theorem dX11_add_168 : decode cX11_add 168 = .ok (.goto 4, 3) := by decide +kernel
theorem dX11_add_171 : decode cX11_add 171 = .ok (.iload_n 3, 1) := by decide +kernel
theorem dX11_add_172 : decode cX11_add 172 = .ok (.ireturn, 1) := by decide +kernel
theorem dX11_isTune_0 : decode cX11_isTune 0 = .ok (.aload_n 0, 1) := by decide +kernel
theorem dX11_isTune_1 : decode cX11_isTune 1 = .ok (.getfield 380, 3) := by decide +kernel
theorem dX11_isTune_4 : decode cX11_isTune 4 = .ok (.iload_n 1, 1) := by decide +kernel
theorem dX11_isTune_5 : decode cX11_isTune 5 = .ok (.irem, 1) := by decide +kernel
theorem dX11_isTune_6 : decode cX11_isTune 6 = .ok (.ifCond .ne 7, 3) := by decide +kernel
theorem dX11_isTune_9 : decode cX11_isTune 9 = .ok (.iconst 1, 1) := by decide +kernel
theorem dX11_isTune_10 : decode cX11_isTune 10 = .ok (.goto 4, 3) := by decide +kernel
theorem dX11_isTune_13 : decode cX11_isTune 13 = .ok (.iconst 0, 1) := by decide +kernel
theorem dX11_isTune_14 : decode cX11_isTune 14 = .ok (.istore_n 2, 1) := by decide +kernel
theorem dX11_isTune_15 : decode cX11_isTune 15 = .ok (.iconst 0, 1) := by decide +kernel
theorem dX11_isTune_16 : decode cX11_isTune 16 = .ok (.istore_n 3, 1) := by decide +kernel
theorem dX11_isTune_17 : decode cX11_isTune 17 = .ok (.iload_n 3, 1) := by decide +kernel
theorem dX11_isTune_18 : decode cX11_isTune 18 = .ok (.aload_n 0, 1) := by decide +kernel
theorem dX11_isTune_19 : decode cX11_isTune 19 = .ok (.getfield 380, 3) := by decide +kernel
theorem dX11_isTune_22 : decode cX11_isTune 22 = .ok (.if_icmp .ge 41, 3) := by decide +kernel
theorem dX11_isTune_25 : decode cX11_isTune 25 = .ok (.iload_n 2, 1) := by decide +kernel
theorem dX11_isTune_26 : decode cX11_isTune 26 = .ok (.ifCond .eq 37, 3) := by decide +kernel
theorem dX11_isTune_29 : decode cX11_isTune 29 = .ok (.aload_n 0, 1) := by decide +kernel
theorem dX11_isTune_30 : decode cX11_isTune 30 = .ok (.getfield 78, 3) := by decide +kernel
theorem dX11_isTune_33 : decode cX11_isTune 33 = .ok (.iload_n 3, 1) := by decide +kernel
theorem dX11_isTune_34 : decode cX11_isTune 34 = .ok (.iaload, 1) := by decide +kernel
theorem dX11_isTune_35 : decode cX11_isTune 35 = .ok (.aload_n 0, 1) := by decide +kernel
theorem dX11_isTune_36 : decode cX11_isTune 36 = .ok (.getfield 78, 3) := by decide +kernel
theorem dX11_isTune_39 : decode cX11_isTune 39 = .ok (.iload_n 3, 1) := by decide +kernel
theorem dX11_isTune_40 : decode cX11_isTune 40 = .ok (.iload_n 1, 1) := by decide +kernel
theorem dX11_isTune_41 : decode cX11_isTune 41 = .ok (.iadd, 1) := by decide +kernel
theorem dX11_isTune_42 : decode cX11_isTune 42 = .ok (.aload_n 0, 1) := by decide +kernel
theorem dX11_isTune_43 : decode cX11_isTune 43 = .ok (.getfield 380, 3) := by decide +kernel
theorem dX11_isTune_46 : decode cX11_isTune 46 = .ok (.irem, 1) := by decide +kernel
theorem dX11_isTune_47 : decode cX11_isTune 47 = .ok (.iaload, 1) := by decide +kernel
theorem dX11_isTune_48 : decode cX11_isTune 48 = .ok (.if_icmp .ne 7, 3) := by decide +kernel
theorem dX11_isTune_51 : decode cX11_isTune 51 = .ok (.iconst 1, 1) := by decide +kernel
theorem dX11_isTune_52 : decode cX11_isTune 52 = .ok (.goto 4, 3) := by decide +kernel
theorem dX11_isTune_55 : decode cX11_isTune 55 = .ok (.iconst 0, 1) := by decide +kernel
theorem dX11_isTune_56 : decode cX11_isTune 56 = .ok (.istore_n 2, 1) := by decide +kernel
theorem dX11_isTune_57 : decode cX11_isTune 57 = .ok (.iinc 3 1, 3) := by decide +kernel
theorem dX11_isTune_60 : decode cX11_isTune 60 = .ok (.goto (-43), 3) := by decide +kernel
theorem dX11_isTune_63 : decode cX11_isTune 63 = .ok (.iload_n 2, 1) := by decide +kernel
theorem dX11_isTune_64 : decode cX11_isTune 64 = .ok (.ireturn, 1) := by decide +kernel
theorem dX11_tune_0 : decode cX11_tune 0 = .ok (.aload_n 0, 1) := by decide +kernel
theorem dX11_tune_1 : decode cX11_tune 1 = .ok (.invokevirtual 389, 3) := by decide +kernel
theorem dX11_tune_4 : decode cX11_tune 4 = .ok (.iconst 1, 1) := by decide +kernel
theorem dX11_tune_5 : decode cX11_tune 5 = .ok (.istore_n 1, 1) := by decide +kernel
theorem dX11_tune_6 : decode cX11_tune 6 = .ok (.aload_n 0, 1) := by decide +kernel
theorem dX11_tune_7 : decode cX11_tune 7 = .ok (.iload_n 1, 1) := by decide +kernel
theorem dX11_tune_8 : decode cX11_tune 8 = .ok (.invokevirtual 407, 3) := by decide +kernel
theorem dX11_tune_11 : decode cX11_tune 11 = .ok (.ifCond .ne 9, 3) := by decide +kernel
theorem dX11_tune_14 : decode cX11_tune 14 = .ok (.iinc 1 1, 3) := by decide +kernel
theorem dX11_tune_17 : decode cX11_tune 17 = .ok (.goto (-11), 3) := by decide +kernel
theorem dX11_tune_20 : decode cX11_tune 20 = .ok (.iload_n 1, 1) := by decide +kernel
theorem dX11_tune_21 : decode cX11_tune 21 = .ok (.ireturn, 1) := by decide +kernel
theorem dX11_compare_0 : decode cX11_compare 0 = .ok (.aload_n 0, 1) := by decide +kernel
theorem dX11_compare_1 : decode cX11_compare 1 = .ok (.iload_n 1, 1) := by decide +kernel
theorem dX11_compare_2 : decode cX11_compare 2 = .ok (.invokevirtual 257, 3) := by decide +kernel
theorem dX11_compare_5 : decode cX11_compare 5 = .ok (.ifCond .ne 5, 3) := by decide +kernel
theorem dX11_compare_8 : decode cX11_compare 8 = .ok (.iconst (-1), 1) := by decide +kernel
theorem dX11_compare_9 : decode cX11_compare 9 = .ok (.ireturn, 1) := by decide +kernel
theorem dX11_compare_10 : decode cX11_compare 10 = .ok (.aload_n 0, 1) := by decide +kernel
theorem dX11_compare_11 : decode cX11_compare 11 = .ok (.getfield 28, 3) := by decide +kernel
theorem dX11_compare_14 : decode cX11_compare 14 = .ok (.bipush 48, 2) := by decide +kernel
theorem dX11_compare_16 : decode cX11_compare 16 = .ok (.iaload, 1) := by decide +kernel
theorem dX11_compare_17 : decode cX11_compare 17 = .ok (.istore_n 2, 1) := by decide +kernel
theorem dX11_compare_18 : decode cX11_compare 18 = .ok (.aload_n 0, 1) := by decide +kernel
theorem dX11_compare_19 : decode cX11_compare 19 = .ok (.getfield 28, 3) := by decide +kernel
theorem dX11_compare_22 : decode cX11_compare 22 = .ok (.bipush 48, 2) := by decide +kernel
theorem dX11_compare_24 : decode cX11_compare 24 = .ok (.iload_n 1, 1) := by decide +kernel
theorem dX11_compare_25 : decode cX11_compare 25 = .ok (.iastore, 1) := by decide +kernel
theorem dX11_compare_26 : decode cX11_compare 26 = .ok (.aload_n 0, 1) := by decide +kernel
theorem dX11_compare_27 : decode cX11_compare 27 = .ok (.invokevirtual 389, 3) := by decide +kernel
theorem dX11_compare_30 : decode cX11_compare 30 = .ok (.aload_n 0, 1) := by decide +kernel
theorem dX11_compare_31 : decode cX11_compare 31 = .ok (.getfield 28, 3) := by decide +kernel
theorem dX11_compare_34 : decode cX11_compare 34 = .ok (.bipush 48, 2) := by decide +kernel
theorem dX11_compare_36 : decode cX11_compare 36 = .ok (.iload_n 2, 1) := by decide +kernel
theorem dX11_compare_37 : decode cX11_compare 37 = .ok (.iastore, 1) := by decide +kernel
theorem dX11_compare_38 : decode cX11_compare 38 = .ok (.iconst 0, 1) := by decide +kernel
theorem dX11_compare_39 : decode cX11_compare 39 = .ok (.istore_n 3, 1) := by decide +kernel
theorem dX11_compare_40 : decode cX11_compare 40 = .ok (.iconst 0, 1) := by decide +kernel
theorem dX11_compare_41 : decode cX11_compare 41 = .ok (.istore 4, 2) := by decide +kernel
theorem dX11_compare_43 : decode cX11_compare 43 = .ok (.iload 4, 2) := by decide +kernel
theorem dX11_compare_45 : decode cX11_compare 45 = .ok (.aload_n 0, 1) := by decide +kernel
theorem dX11_compare_46 : decode cX11_compare 46 = .ok (.getfield 380, 3) := by decide +kernel
theorem dX11_compare_49 : decode cX11_compare 49 = .ok (.if_icmp .ge 19, 3) := by decide +kernel
theorem dX11_compare_52 : decode cX11_compare 52 = .ok (.iload_n 3, 1) := by decide +kernel
theorem dX11_compare_53 : decode cX11_compare 53 = .ok (.aload_n 0, 1) := by decide +kernel
theorem dX11_compare_54 : decode cX11_compare 54 = .ok (.getfield 78, 3) := by decide +kernel
theorem dX11_compare_57 : decode cX11_compare 57 = .ok (.iload 4, 2) := by decide +kernel
theorem dX11_compare_59 : decode cX11_compare 59 = .ok (.iaload, 1) := by decide +kernel
theorem dX11_compare_60 : decode cX11_compare 60 = .ok (.iadd, 1) := by decide +kernel
theorem dX11_compare_61 : decode cX11_compare 61 = .ok (.istore_n 3, 1) := by decide +kernel
theorem dX11_compare_62 : decode cX11_compare 62 = .ok (.iinc 4 1, 3) := by decide +kernel
theorem dX11_compare_65 : decode cX11_compare 65 = .ok (.goto (-22), 3) := by decide +kernel
theorem dX11_compare_68 : decode cX11_compare 68 = .ok (.iload_n 3, 1) := by decide +kernel
theorem dX11_compare_69 : decode cX11_compare 69 = .ok (.ireturn, 1) := by decide +kernel
theorem dX11_heard_0 : decode cX11_heard 0 = .ok (.iload_n 1, 1) := by decide +kernel
theorem dX11_heard_1 : decode cX11_heard 1 = .ok (.iconst 0, 1) := by decide +kernel
theorem dX11_heard_2 : decode cX11_heard 2 = .ok (.bipush 99, 2) := by decide +kernel
theorem dX11_heard_4 : decode cX11_heard 4 = .ok (.invokestatic 18, 3) := by decide +kernel
theorem dX11_heard_7 : decode cX11_heard 7 = .ok (.ifCond .eq 10, 3) := by decide +kernel
theorem dX11_heard_10 : decode cX11_heard 10 = .ok (.iload_n 2, 1) := by decide +kernel
theorem dX11_heard_11 : decode cX11_heard 11 = .ok (.invokestatic 392, 3) := by decide +kernel
theorem dX11_heard_14 : decode cX11_heard 14 = .ok (.ifCond .ne 9, 3) := by decide +kernel
theorem dX11_heard_17 : decode cX11_heard 17 = .ok (.aload_n 0, 1) := by decide +kernel
theorem dX11_heard_18 : decode cX11_heard 18 = .ok (.iconst (-1), 1) := by decide +kernel
theorem dX11_heard_19 : decode cX11_heard 19 = .ok (.invokevirtual 106, 3) := by decide +kernel
theorem dX11_heard_22 : decode cX11_heard 22 = .ok (.ireturn, 1) := by decide +kernel
theorem dX11_heard_23 : decode cX11_heard 23 = .ok (.bipush 31, 2) := by decide +kernel
theorem dX11_heard_25 : decode cX11_heard 25 = .ok (.iconst 2, 1) := by decide +kernel
theorem dX11_heard_26 : decode cX11_heard 26 = .ok (.aload_n 0, 1) := by decide +kernel
theorem dX11_heard_27 : decode cX11_heard 27 = .ok (.getfield 28, 3) := by decide +kernel
theorem dX11_heard_30 : decode cX11_heard 30 = .ok (.bipush 46, 2) := by decide +kernel
theorem dX11_heard_32 : decode cX11_heard 32 = .ok (.iaload, 1) := by decide +kernel
theorem dX11_heard_33 : decode cX11_heard 33 = .ok (.imul, 1) := by decide +kernel
theorem dX11_heard_34 : decode cX11_heard 34 = .ok (.iadd, 1) := by decide +kernel
theorem dX11_heard_35 : decode cX11_heard 35 = .ok (.istore_n 3, 1) := by decide +kernel
theorem dX11_heard_36 : decode cX11_heard 36 = .ok (.aload_n 0, 1) := by decide +kernel
theorem dX11_heard_37 : decode cX11_heard 37 = .ok (.getfield 28, 3) := by decide +kernel
theorem dX11_heard_40 : decode cX11_heard 40 = .ok (.bipush 46, 2) := by decide +kernel
theorem dX11_heard_42 : decode cX11_heard 42 = .ok (.iaload, 1) := by decide +kernel
theorem dX11_heard_43 : decode cX11_heard 43 = .ok (.bipush 6, 2) := by decide +kernel
theorem dX11_heard_45 : decode cX11_heard 45 = .ok (.if_icmp .ne 10, 3) := by decide +kernel
theorem dX11_heard_48 : decode cX11_heard 48 = .ok (.aload_n 0, 1) := by decide +kernel
theorem dX11_heard_49 : decode cX11_heard 49 = .ok (.bipush (-5), 2) := by decide +kernel
theorem dX11_heard_51 : decode cX11_heard 51 = .ok (.invokevirtual 106, 3) := by decide +kernel
theorem dX11_heard_54 : decode cX11_heard 54 = .ok (.ireturn, 1) := by decide +kernel
theorem dX11_heard_55 : decode cX11_heard 55 = .ok (.aload_n 0, 1) := by decide +kernel
theorem dX11_heard_56 : decode cX11_heard 56 = .ok (.getfield 28, 3) := by decide +kernel
theorem dX11_heard_59 : decode cX11_heard 59 = .ok (.iload_n 3, 1) := by decide +kernel
theorem dX11_heard_60 : decode cX11_heard 60 = .ok (.iload_n 1, 1) := by decide +kernel
theorem dX11_heard_61 : decode cX11_heard 61 = .ok (.iastore, 1) := by decide +kernel
theorem dX11_heard_62 : decode cX11_heard 62 = .ok (.aload_n 0, 1) := by decide +kernel
theorem dX11_heard_63 : decode cX11_heard 63 = .ok (.getfield 28, 3) := by decide +kernel
theorem dX11_heard_66 : decode cX11_heard 66 = .ok (.iload_n 3, 1) := by decide +kernel
theorem dX11_heard_67 : decode cX11_heard 67 = .ok (.iconst 1, 1) := by decide +kernel
theorem dX11_heard_68 : decode cX11_heard 68 = .ok (.iadd, 1) := by decide +kernel
theorem dX11_heard_69 : decode cX11_heard 69 = .ok (.iload_n 2, 1) := by decide +kernel
theorem dX11_heard_70 : decode cX11_heard 70 = .ok (.iastore, 1) := by decide +kernel
theorem dX11_heard_71 : decode cX11_heard 71 = .ok (.aload_n 0, 1) := by decide +kernel
theorem dX11_heard_72 : decode cX11_heard 72 = .ok (.getfield 28, 3) := by decide +kernel
theorem dX11_heard_75 : decode cX11_heard 75 = .ok (.bipush 46, 2) := by decide +kernel
theorem dX11_heard_77 : decode cX11_heard 77 = .ok (.dup2, 1) := by decide +kernel
theorem dX11_heard_78 : decode cX11_heard 78 = .ok (.iaload, 1) := by decide +kernel
theorem dX11_heard_79 : decode cX11_heard 79 = .ok (.iconst 1, 1) := by decide +kernel
theorem dX11_heard_80 : decode cX11_heard 80 = .ok (.iadd, 1) := by decide +kernel
theorem dX11_heard_81 : decode cX11_heard 81 = .ok (.iastore, 1) := by decide +kernel
theorem dX11_heard_82 : decode cX11_heard 82 = .ok (.aload_n 0, 1) := by decide +kernel
theorem dX11_heard_83 : decode cX11_heard 83 = .ok (.aload_n 0, 1) := by decide +kernel
theorem dX11_heard_84 : decode cX11_heard 84 = .ok (.getfield 28, 3) := by decide +kernel
theorem dX11_heard_87 : decode cX11_heard 87 = .ok (.bipush 46, 2) := by decide +kernel
theorem dX11_heard_89 : decode cX11_heard 89 = .ok (.iaload, 1) := by decide +kernel
theorem dX11_heard_90 : decode cX11_heard 90 = .ok (.invokevirtual 14, 3) := by decide +kernel
theorem dX11_heard_93 : decode cX11_heard 93 = .ok (.ireturn, 1) := by decide +kernel
theorem dX11_forget_0 : decode cX11_forget 0 = .ok (.aload_n 0, 1) := by decide +kernel
theorem dX11_forget_1 : decode cX11_forget 1 = .ok (.getfield 28, 3) := by decide +kernel
theorem dX11_forget_4 : decode cX11_forget 4 = .ok (.bipush 46, 2) := by decide +kernel
theorem dX11_forget_6 : decode cX11_forget 6 = .ok (.iaload, 1) := by decide +kernel
theorem dX11_forget_7 : decode cX11_forget 7 = .ok (.istore_n 1, 1) := by decide +kernel
theorem dX11_forget_8 : decode cX11_forget 8 = .ok (.aload_n 0, 1) := by decide +kernel
theorem dX11_forget_9 : decode cX11_forget 9 = .ok (.getfield 28, 3) := by decide +kernel
theorem dX11_forget_12 : decode cX11_forget 12 = .ok (.bipush 46, 2) := by decide +kernel
theorem dX11_forget_14 : decode cX11_forget 14 = .ok (.iconst 0, 1) := by decide +kernel
theorem dX11_forget_15 : decode cX11_forget 15 = .ok (.iastore, 1) := by decide +kernel
theorem dX11_forget_16 : decode cX11_forget 16 = .ok (.iload_n 1, 1) := by decide +kernel
theorem dX11_forget_17 : decode cX11_forget 17 = .ok (.ireturn, 1) := by decide +kernel
theorem dX11_isSo_0 : decode cX11_isSo 0 = .ok (.iconst 1, 1) := by decide +kernel
theorem dX11_isSo_1 : decode cX11_isSo 1 = .ok (.istore_n 2, 1) := by decide +kernel
theorem dX11_isSo_2 : decode cX11_isSo 2 = .ok (.iconst 0, 1) := by decide +kernel
theorem dX11_isSo_3 : decode cX11_isSo 3 = .ok (.istore_n 3, 1) := by decide +kernel
theorem dX11_isSo_4 : decode cX11_isSo 4 = .ok (.iload_n 3, 1) := by decide +kernel
theorem dX11_isSo_5 : decode cX11_isSo 5 = .ok (.aload_n 0, 1) := by decide +kernel
theorem dX11_isSo_6 : decode cX11_isSo 6 = .ok (.getfield 28, 3) := by decide +kernel
theorem dX11_isSo_9 : decode cX11_isSo 9 = .ok (.bipush 46, 2) := by decide +kernel
theorem dX11_isSo_11 : decode cX11_isSo 11 = .ok (.iaload, 1) := by decide +kernel
theorem dX11_isSo_12 : decode cX11_isSo 12 = .ok (.if_icmp .ge 60, 3) := by decide +kernel
theorem dX11_isSo_15 : decode cX11_isSo 15 = .ok (.iload_n 2, 1) := by decide +kernel
theorem dX11_isSo_16 : decode cX11_isSo 16 = .ok (.ifCond .eq 56, 3) := by decide +kernel
theorem dX11_isSo_19 : decode cX11_isSo 19 = .ok (.aload_n 0, 1) := by decide +kernel
theorem dX11_isSo_20 : decode cX11_isSo 20 = .ok (.iload_n 1, 1) := by decide +kernel
theorem dX11_isSo_21 : decode cX11_isSo 21 = .ok (.aload_n 0, 1) := by decide +kernel
theorem dX11_isSo_22 : decode cX11_isSo 22 = .ok (.getfield 28, 3) := by decide +kernel
theorem dX11_isSo_25 : decode cX11_isSo 25 = .ok (.bipush 31, 2) := by decide +kernel
theorem dX11_isSo_27 : decode cX11_isSo 27 = .ok (.iconst 2, 1) := by decide +kernel
theorem dX11_isSo_28 : decode cX11_isSo 28 = .ok (.iload_n 3, 1) := by decide +kernel
theorem dX11_isSo_29 : decode cX11_isSo 29 = .ok (.imul, 1) := by decide +kernel
theorem dX11_isSo_30 : decode cX11_isSo 30 = .ok (.iadd, 1) := by decide +kernel
theorem dX11_isSo_31 : decode cX11_isSo 31 = .ok (.iaload, 1) := by decide +kernel
theorem dX11_isSo_32 : decode cX11_isSo 32 = .ok (.invokevirtual 132, 3) := by decide +kernel
theorem dX11_isSo_35 : decode cX11_isSo 35 = .ok (.aload_n 0, 1) := by decide +kernel
theorem dX11_isSo_36 : decode cX11_isSo 36 = .ok (.getfield 28, 3) := by decide +kernel
theorem dX11_isSo_39 : decode cX11_isSo 39 = .ok (.bipush 31, 2) := by decide +kernel
theorem dX11_isSo_41 : decode cX11_isSo 41 = .ok (.iconst 2, 1) := by decide +kernel
theorem dX11_isSo_42 : decode cX11_isSo 42 = .ok (.iload_n 3, 1) := by decide +kernel
theorem dX11_isSo_43 : decode cX11_isSo 43 = .ok (.imul, 1) := by decide +kernel
theorem dX11_isSo_44 : decode cX11_isSo 44 = .ok (.iadd, 1) := by decide +kernel
theorem dX11_isSo_45 : decode cX11_isSo 45 = .ok (.iconst 1, 1) := by decide +kernel
theorem dX11_isSo_46 : decode cX11_isSo 46 = .ok (.iadd, 1) := by decide +kernel
theorem dX11_isSo_47 : decode cX11_isSo 47 = .ok (.iaload, 1) := by decide +kernel
theorem dX11_isSo_48 : decode cX11_isSo 48 = .ok (.iconst 1, 1) := by decide +kernel
theorem dX11_isSo_49 : decode cX11_isSo 49 = .ok (.if_icmp .ne 7, 3) := by decide +kernel
theorem dX11_isSo_52 : decode cX11_isSo 52 = .ok (.iconst 1, 1) := by decide +kernel
theorem dX11_isSo_53 : decode cX11_isSo 53 = .ok (.goto 4, 3) := by decide +kernel
theorem dX11_isSo_56 : decode cX11_isSo 56 = .ok (.iconst 0, 1) := by decide +kernel
theorem dX11_isSo_57 : decode cX11_isSo 57 = .ok (.if_icmp .ne 7, 3) := by decide +kernel
theorem dX11_isSo_60 : decode cX11_isSo 60 = .ok (.iconst 1, 1) := by decide +kernel
theorem dX11_isSo_61 : decode cX11_isSo 61 = .ok (.goto 4, 3) := by decide +kernel
theorem dX11_isSo_64 : decode cX11_isSo 64 = .ok (.iconst 0, 1) := by decide +kernel
theorem dX11_isSo_65 : decode cX11_isSo 65 = .ok (.istore_n 2, 1) := by decide +kernel
theorem dX11_isSo_66 : decode cX11_isSo 66 = .ok (.iinc 3 1, 3) := by decide +kernel
theorem dX11_isSo_69 : decode cX11_isSo 69 = .ok (.goto (-65), 3) := by decide +kernel
theorem dX11_isSo_72 : decode cX11_isSo 72 = .ok (.iload_n 2, 1) := by decide +kernel
theorem dX11_isSo_73 : decode cX11_isSo 73 = .ok (.ireturn, 1) := by decide +kernel
theorem dX11_canBe_0 : decode cX11_canBe 0 = .ok (.iconst 0, 1) := by decide +kernel
theorem dX11_canBe_1 : decode cX11_canBe 1 = .ok (.istore_n 1, 1) := by decide +kernel
theorem dX11_canBe_2 : decode cX11_canBe 2 = .ok (.iconst 0, 1) := by decide +kernel
theorem dX11_canBe_3 : decode cX11_canBe 3 = .ok (.istore_n 2, 1) := by decide +kernel
theorem dX11_canBe_4 : decode cX11_canBe 4 = .ok (.iload_n 2, 1) := by decide +kernel
theorem dX11_canBe_5 : decode cX11_canBe 5 = .ok (.aload_n 0, 1) := by decide +kernel
theorem dX11_canBe_6 : decode cX11_canBe 6 = .ok (.invokevirtual 112, 3) := by decide +kernel
theorem dX11_canBe_9 : decode cX11_canBe 9 = .ok (.if_icmp .ge 27, 3) := by decide +kernel
theorem dX11_canBe_12 : decode cX11_canBe 12 = .ok (.iload_n 1, 1) := by decide +kernel
theorem dX11_canBe_13 : decode cX11_canBe 13 = .ok (.aload_n 0, 1) := by decide +kernel
theorem dX11_canBe_14 : decode cX11_canBe 14 = .ok (.iload_n 2, 1) := by decide +kernel
theorem dX11_canBe_15 : decode cX11_canBe 15 = .ok (.invokevirtual 410, 3) := by decide +kernel
theorem dX11_canBe_18 : decode cX11_canBe 18 = .ok (.ifCond .eq 9, 3) := by decide +kernel
theorem dX11_canBe_21 : decode cX11_canBe 21 = .ok (.iconst 1, 1) := by decide +kernel
theorem dX11_canBe_22 : decode cX11_canBe 22 = .ok (.iload_n 2, 1) := by decide +kernel
theorem dX11_canBe_23 : decode cX11_canBe 23 = .ok (.ishl, 1) := by decide +kernel
theorem dX11_canBe_24 : decode cX11_canBe 24 = .ok (.goto 4, 3) := by decide +kernel
theorem dX11_canBe_27 : decode cX11_canBe 27 = .ok (.iconst 0, 1) := by decide +kernel
theorem dX11_canBe_28 : decode cX11_canBe 28 = .ok (.ior, 1) := by decide +kernel
theorem dX11_canBe_29 : decode cX11_canBe 29 = .ok (.istore_n 1, 1) := by decide +kernel
theorem dX11_canBe_30 : decode cX11_canBe 30 = .ok (.iinc 2 1, 3) := by decide +kernel
theorem dX11_canBe_33 : decode cX11_canBe 33 = .ok (.goto (-29), 3) := by decide +kernel
theorem dX11_canBe_36 : decode cX11_canBe 36 = .ok (.iload_n 1, 1) := by decide +kernel
theorem dX11_canBe_37 : decode cX11_canBe 37 = .ok (.ireturn, 1) := by decide +kernel
theorem dX11_moreAt_0 : decode cX11_moreAt 0 = .ok (.iconst 0, 1) := by decide +kernel
theorem dX11_moreAt_1 : decode cX11_moreAt 1 = .ok (.istore_n 3, 1) := by decide +kernel
theorem dX11_moreAt_2 : decode cX11_moreAt 2 = .ok (.iconst 0, 1) := by decide +kernel
theorem dX11_moreAt_3 : decode cX11_moreAt 3 = .ok (.istore 4, 2) := by decide +kernel
theorem dX11_moreAt_5 : decode cX11_moreAt 5 = .ok (.iload 4, 2) := by decide +kernel
theorem dX11_moreAt_7 : decode cX11_moreAt 7 = .ok (.aload_n 0, 1) := by decide +kernel
theorem dX11_moreAt_8 : decode cX11_moreAt 8 = .ok (.invokevirtual 112, 3) := by decide +kernel
theorem dX11_moreAt_11 : decode cX11_moreAt 11 = .ok (.if_icmp .ge 36, 3) := by decide +kernel
theorem dX11_moreAt_14 : decode cX11_moreAt 14 = .ok (.iload_n 3, 1) := by decide +kernel
theorem dX11_moreAt_15 : decode cX11_moreAt 15 = .ok (.iload_n 1, 1) := by decide +kernel
theorem dX11_moreAt_16 : decode cX11_moreAt 16 = .ok (.iload 4, 2) := by decide +kernel
theorem dX11_moreAt_18 : decode cX11_moreAt 18 = .ok (.invokestatic 116, 3) := by decide +kernel
theorem dX11_moreAt_21 : decode cX11_moreAt 21 = .ok (.ifCond .eq 17, 3) := by decide +kernel
theorem dX11_moreAt_24 : decode cX11_moreAt 24 = .ok (.aload_n 0, 1) := by decide +kernel
theorem dX11_moreAt_25 : decode cX11_moreAt 25 = .ok (.iload 4, 2) := by decide +kernel
theorem dX11_moreAt_27 : decode cX11_moreAt 27 = .ok (.iload_n 2, 1) := by decide +kernel
theorem dX11_moreAt_28 : decode cX11_moreAt 28 = .ok (.invokevirtual 132, 3) := by decide +kernel
theorem dX11_moreAt_31 : decode cX11_moreAt 31 = .ok (.ifCond .eq 7, 3) := by decide +kernel
theorem dX11_moreAt_34 : decode cX11_moreAt 34 = .ok (.iconst 1, 1) := by decide +kernel
theorem dX11_moreAt_35 : decode cX11_moreAt 35 = .ok (.goto 4, 3) := by decide +kernel
theorem dX11_moreAt_38 : decode cX11_moreAt 38 = .ok (.iconst 0, 1) := by decide +kernel
theorem dX11_moreAt_39 : decode cX11_moreAt 39 = .ok (.iadd, 1) := by decide +kernel
theorem dX11_moreAt_40 : decode cX11_moreAt 40 = .ok (.istore_n 3, 1) := by decide +kernel
theorem dX11_moreAt_41 : decode cX11_moreAt 41 = .ok (.iinc 4 1, 3) := by decide +kernel
theorem dX11_moreAt_44 : decode cX11_moreAt 44 = .ok (.goto (-39), 3) := by decide +kernel
theorem dX11_moreAt_47 : decode cX11_moreAt 47 = .ok (.iload_n 3, 1) := by decide +kernel
theorem dX11_moreAt_48 : decode cX11_moreAt 48 = .ok (.iload_n 1, 1) := by decide +kernel
theorem dX11_moreAt_49 : decode cX11_moreAt 49 = .ok (.invokestatic 299, 3) := by decide +kernel
theorem dX11_moreAt_52 : decode cX11_moreAt 52 = .ok (.iload_n 3, 1) := by decide +kernel
theorem dX11_moreAt_53 : decode cX11_moreAt 53 = .ok (.isub, 1) := by decide +kernel
theorem dX11_moreAt_54 : decode cX11_moreAt 54 = .ok (.invokestatic 413, 3) := by decide +kernel
theorem dX11_moreAt_57 : decode cX11_moreAt 57 = .ok (.ireturn, 1) := by decide +kernel
theorem dX11_listen_0 : decode cX11_listen 0 = .ok (.iload_n 1, 1) := by decide +kernel
theorem dX11_listen_1 : decode cX11_listen 1 = .ok (.invokestatic 392, 3) := by decide +kernel
theorem dX11_listen_4 : decode cX11_listen 4 = .ok (.ifCond .ne 5, 3) := by decide +kernel
theorem dX11_listen_7 : decode cX11_listen 7 = .ok (.iconst (-1), 1) := by decide +kernel
theorem dX11_listen_8 : decode cX11_listen 8 = .ok (.ireturn, 1) := by decide +kernel
theorem dX11_listen_9 : decode cX11_listen 9 = .ok (.aload_n 0, 1) := by decide +kernel
theorem dX11_listen_10 : decode cX11_listen 10 = .ok (.invokevirtual 416, 3) := by decide +kernel
theorem dX11_listen_13 : decode cX11_listen 13 = .ok (.istore_n 2, 1) := by decide +kernel
theorem dX11_listen_14 : decode cX11_listen 14 = .ok (.iconst (-1), 1) := by decide +kernel
theorem dX11_listen_15 : decode cX11_listen 15 = .ok (.istore_n 3, 1) := by decide +kernel
theorem dX11_listen_16 : decode cX11_listen 16 = .ok (.ldc 169, 2) := by decide +kernel
theorem dX11_listen_18 : decode cX11_listen 18 = .ok (.istore 4, 2) := by decide +kernel
theorem dX11_listen_20 : decode cX11_listen 20 = .ok (.iconst 0, 1) := by decide +kernel
theorem dX11_listen_21 : decode cX11_listen 21 = .ok (.istore 5, 2) := by decide +kernel
theorem dX11_listen_23 : decode cX11_listen 23 = .ok (.iload 5, 2) := by decide +kernel
theorem dX11_listen_25 : decode cX11_listen 25 = .ok (.bipush 100, 2) := by decide +kernel
theorem dX11_listen_27 : decode cX11_listen 27 = .ok (.if_icmp .ge 39, 3) := by decide +kernel
theorem dX11_listen_30 : decode cX11_listen 30 = .ok (.iload_n 2, 1) := by decide +kernel
theorem dX11_listen_31 : decode cX11_listen 31 = .ok (.ifCond .eq 35, 3) := by decide +kernel
theorem dX11_listen_34 : decode cX11_listen 34 = .ok (.aload_n 0, 1) := by decide +kernel
theorem dX11_listen_35 : decode cX11_listen 35 = .ok (.iload_n 2, 1) := by decide +kernel
theorem dX11_listen_36 : decode cX11_listen 36 = .ok (.iload 5, 2) := by decide +kernel
theorem dX11_listen_38 : decode cX11_listen 38 = .ok (.invokevirtual 419, 3) := by decide +kernel
theorem dX11_listen_41 : decode cX11_listen 41 = .ok (.istore 6, 2) := by decide +kernel
theorem dX11_listen_43 : decode cX11_listen 43 = .ok (.iload 6, 2) := by decide +kernel
theorem dX11_listen_45 : decode cX11_listen 45 = .ok (.iload 4, 2) := by decide +kernel
theorem dX11_listen_47 : decode cX11_listen 47 = .ok (.if_icmp .lt 6, 3) := by decide +kernel
theorem dX11_listen_50 : decode cX11_listen 50 = .ok (.goto 10, 3) := by decide +kernel
theorem dX11_listen_53 : decode cX11_listen 53 = .ok (.iload 6, 2) := by decide +kernel
theorem dX11_listen_55 : decode cX11_listen 55 = .ok (.istore 4, 2) := by decide +kernel
theorem dX11_listen_57 : decode cX11_listen 57 = .ok (.iload 5, 2) := by decide +kernel
theorem dX11_listen_59 : decode cX11_listen 59 = .ok (.istore_n 3, 1) := by decide +kernel
theorem dX11_listen_60 : decode cX11_listen 60 = .ok (.iinc 5 1, 3) := by decide +kernel
theorem dX11_listen_63 : decode cX11_listen 63 = .ok (.goto (-40), 3) := by decide +kernel
theorem dX11_listen_66 : decode cX11_listen 66 = .ok (.iload_n 3, 1) := by decide +kernel
theorem dX11_listen_67 : decode cX11_listen 67 = .ok (.iconst (-1), 1) := by decide +kernel
theorem dX11_listen_68 : decode cX11_listen 68 = .ok (.if_icmp .eq 7, 3) := by decide +kernel
theorem dX11_listen_71 : decode cX11_listen 71 = .ok (.iload_n 1, 1) := by decide +kernel
theorem dX11_listen_72 : decode cX11_listen 72 = .ok (.ifCond .ne 7, 3) := by decide +kernel
theorem dX11_listen_75 : decode cX11_listen 75 = .ok (.iload_n 3, 1) := by decide +kernel
theorem dX11_listen_76 : decode cX11_listen 76 = .ok (.goto 5, 3) := by decide +kernel
theorem dX11_listen_79 : decode cX11_listen 79 = .ok (.iload 4, 2) := by decide +kernel
theorem dX11_listen_81 : decode cX11_listen 81 = .ok (.ireturn, 1) := by decide +kernel
theorem dX11_few_0 : decode cX11_few 0 = .ok (.iload_n 1, 1) := by decide +kernel
theorem dX11_few_1 : decode cX11_few 1 = .ok (.iconst 1, 1) := by decide +kernel
theorem dX11_few_2 : decode cX11_few 2 = .ok (.bipush 20, 2) := by decide +kernel
theorem dX11_few_4 : decode cX11_few 4 = .ok (.invokestatic 18, 3) := by decide +kernel
theorem dX11_few_7 : decode cX11_few 7 = .ok (.ifCond .eq 13, 3) := by decide +kernel
theorem dX11_few_10 : decode cX11_few 10 = .ok (.iload_n 2, 1) := by decide +kernel
theorem dX11_few_11 : decode cX11_few 11 = .ok (.iconst 0, 1) := by decide +kernel
theorem dX11_few_12 : decode cX11_few 12 = .ok (.bipush 99, 2) := by decide +kernel
theorem dX11_few_14 : decode cX11_few 14 = .ok (.invokestatic 18, 3) := by decide +kernel
theorem dX11_few_17 : decode cX11_few 17 = .ok (.ifCond .ne 7, 3) := by decide +kernel
theorem dX11_few_20 : decode cX11_few 20 = .ok (.ldc2_w 422, 3) := by decide +kernel
theorem dX11_few_23 : decode cX11_few 23 = .ok (.lreturn, 1) := by decide +kernel
theorem dX11_few_24 : decode cX11_few 24 = .ok (.iconst 0, 1) := by decide +kernel
theorem dX11_few_25 : decode cX11_few 25 = .ok (.istore_n 3, 1) := by decide +kernel
theorem dX11_few_26 : decode cX11_few 26 = .ok (.iload_n 3, 1) := by decide +kernel
theorem dX11_few_27 : decode cX11_few 27 = .ok (.bipush 20, 2) := by decide +kernel
theorem dX11_few_29 : decode cX11_few 29 = .ok (.if_icmp .gt 26, 3) := by decide +kernel
theorem dX11_few_32 : decode cX11_few 32 = .ok (.aload_n 0, 1) := by decide +kernel
theorem dX11_few_33 : decode cX11_few 33 = .ok (.getfield 90, 3) := by decide +kernel
theorem dX11_few_36 : decode cX11_few 36 = .ok (.iload_n 3, 1) := by decide +kernel
theorem dX11_few_37 : decode cX11_few 37 = .ok (.iload_n 3, 1) := by decide +kernel
theorem dX11_few_38 : decode cX11_few 38 = .ok (.ifCond .ne 9, 3) := by decide +kernel
theorem dX11_few_41 : decode cX11_few 41 = .ok (.ldc2_w 424, 3) := by decide +kernel
theorem dX11_few_44 : decode cX11_few 44 = .ok (.goto 4, 3) := by decide +kernel
theorem dX11_few_47 : decode cX11_few 47 = .ok (.lconst 0, 1) := by decide +kernel
theorem dX11_few_48 : decode cX11_few 48 = .ok (.lastore, 1) := by decide +kernel
theorem dX11_few_49 : decode cX11_few 49 = .ok (.iinc 3 1, 3) := by decide +kernel
theorem dX11_few_52 : decode cX11_few 52 = .ok (.goto (-26), 3) := by decide +kernel
theorem dX11_few_55 : decode cX11_few 55 = .ok (.iconst 0, 1) := by decide +kernel
theorem dX11_few_56 : decode cX11_few 56 = .ok (.istore_n 3, 1) := by decide +kernel
theorem dX11_few_57 : decode cX11_few 57 = .ok (.iload_n 3, 1) := by decide +kernel
theorem dX11_few_58 : decode cX11_few 58 = .ok (.iload_n 2, 1) := by decide +kernel
theorem dX11_few_59 : decode cX11_few 59 = .ok (.if_icmp .ge 87, 3) := by decide +kernel
theorem dX11_few_62 : decode cX11_few 62 = .ok (.iload_n 1, 1) := by decide +kernel
theorem dX11_few_63 : decode cX11_few 63 = .ok (.iconst 1, 1) := by decide +kernel
theorem dX11_few_64 : decode cX11_few 64 = .ok (.isub, 1) := by decide +kernel
theorem dX11_few_65 : decode cX11_few 65 = .ok (.istore 4, 2) := by decide +kernel
theorem dX11_few_67 : decode cX11_few 67 = .ok (.iload 4, 2) := by decide +kernel
theorem dX11_few_69 : decode cX11_few 69 = .ok (.ifCond .lt 71, 3) := by decide +kernel
theorem dX11_few_72 : decode cX11_few 72 = .ok (.aload_n 0, 1) := by decide +kernel
theorem dX11_few_73 : decode cX11_few 73 = .ok (.getfield 90, 3) := by decide +kernel
theorem dX11_few_76 : decode cX11_few 76 = .ok (.iload 4, 2) := by decide +kernel
theorem dX11_few_78 : decode cX11_few 78 = .ok (.iconst 1, 1) := by decide +kernel
theorem dX11_few_79 : decode cX11_few 79 = .ok (.iadd, 1) := by decide +kernel
theorem dX11_few_80 : decode cX11_few 80 = .ok (.dup2, 1) := by decide +kernel
theorem dX11_few_81 : decode cX11_few 81 = .ok (.laload, 1) := by decide +kernel
theorem dX11_few_82 : decode cX11_few 82 = .ok (.aload_n 0, 1) := by decide +kernel
theorem dX11_few_83 : decode cX11_few 83 = .ok (.getfield 90, 3) := by decide +kernel
theorem dX11_few_86 : decode cX11_few 86 = .ok (.iload 4, 2) := by decide +kernel
theorem dX11_few_88 : decode cX11_few 88 = .ok (.laload, 1) := by decide +kernel
theorem dX11_few_89 : decode cX11_few 89 = .ok (.aload_n 0, 1) := by decide +kernel
theorem dX11_few_90 : decode cX11_few 90 = .ok (.getfield 28, 3) := by decide +kernel
theorem dX11_few_93 : decode cX11_few 93 = .ok (.bipush 43, 2) := by decide +kernel
theorem dX11_few_95 : decode cX11_few 95 = .ok (.iaload, 1) := by decide +kernel
theorem dX11_few_96 : decode cX11_few 96 = .ok (.i2l, 1) := by decide +kernel
theorem dX11_few_97 : decode cX11_few 97 = .ok (.lmul, 1) := by decide +kernel
theorem dX11_few_98 : decode cX11_few 98 = .ok (.ldc2_w 426, 3) := by decide +kernel
theorem dX11_few_101 : decode cX11_few 101 = .ok (.ldiv, 1) := by decide +kernel
theorem dX11_few_102 : decode cX11_few 102 = .ok (.ladd, 1) := by decide +kernel
theorem dX11_few_103 : decode cX11_few 103 = .ok (.lastore, 1) := by decide +kernel
theorem dX11_few_104 : decode cX11_few 104 = .ok (.aload_n 0, 1) := by decide +kernel
theorem dX11_few_105 : decode cX11_few 105 = .ok (.getfield 90, 3) := by decide +kernel
theorem dX11_few_108 : decode cX11_few 108 = .ok (.iload 4, 2) := by decide +kernel
theorem dX11_few_110 : decode cX11_few 110 = .ok (.aload_n 0, 1) := by decide +kernel
theorem dX11_few_111 : decode cX11_few 111 = .ok (.getfield 90, 3) := by decide +kernel
theorem dX11_few_114 : decode cX11_few 114 = .ok (.iload 4, 2) := by decide +kernel
theorem dX11_few_116 : decode cX11_few 116 = .ok (.laload, 1) := by decide +kernel
theorem dX11_few_117 : decode cX11_few 117 = .ok (.bipush 10, 2) := by decide +kernel
theorem dX11_few_119 : decode cX11_few 119 = .ok (.aload_n 0, 1) := by decide +kernel
theorem dX11_few_120 : decode cX11_few 120 = .ok (.getfield 28, 3) := by decide +kernel
theorem dX11_few_123 : decode cX11_few 123 = .ok (.bipush 43, 2) := by decide +kernel
theorem dX11_few_125 : decode cX11_few 125 = .ok (.iaload, 1) := by decide +kernel
theorem dX11_few_126 : decode cX11_few 126 = .ok (.isub, 1) := by decide +kernel
theorem dX11_few_127 : decode cX11_few 127 = .ok (.i2l, 1) := by decide +kernel
theorem dX11_few_128 : decode cX11_few 128 = .ok (.lmul, 1) := by decide +kernel
theorem dX11_few_129 : decode cX11_few 129 = .ok (.ldc2_w 426, 3) := by decide +kernel
theorem dX11_few_132 : decode cX11_few 132 = .ok (.ldiv, 1) := by decide +kernel
theorem dX11_few_133 : decode cX11_few 133 = .ok (.lastore, 1) := by decide +kernel
theorem dX11_few_134 : decode cX11_few 134 = .ok (.iinc 4 (-1), 3) := by decide +kernel
theorem dX11_few_137 : decode cX11_few 137 = .ok (.goto (-70), 3) := by decide +kernel
theorem dX11_few_140 : decode cX11_few 140 = .ok (.iinc 3 1, 3) := by decide +kernel
theorem dX11_few_143 : decode cX11_few 143 = .ok (.goto (-86), 3) := by decide +kernel
theorem dX11_few_146 : decode cX11_few 146 = .ok (.lconst 0, 1) := by decide +kernel
theorem dX11_few_147 : decode cX11_few 147 = .ok (.lstore_n 3, 1) := by decide +kernel
theorem dX11_few_148 : decode cX11_few 148 = .ok (.iconst 0, 1) := by decide +kernel
theorem dX11_few_149 : decode cX11_few 149 = .ok (.istore 5, 2) := by decide +kernel
theorem dX11_few_151 : decode cX11_few 151 = .ok (.iload 5, 2) := by decide +kernel
theorem dX11_few_153 : decode cX11_few 153 = .ok (.iload_n 1, 1) := by decide +kernel
theorem dX11_few_154 : decode cX11_few 154 = .ok (.if_icmp .ge 19, 3) := by decide +kernel
theorem dX11_few_157 : decode cX11_few 157 = .ok (.lload_n 3, 1) := by decide +kernel
theorem dX11_few_158 : decode cX11_few 158 = .ok (.aload_n 0, 1) := by decide +kernel
theorem dX11_few_159 : decode cX11_few 159 = .ok (.getfield 90, 3) := by decide +kernel
theorem dX11_few_162 : decode cX11_few 162 = .ok (.iload 5, 2) := by decide +kernel
theorem dX11_few_164 : decode cX11_few 164 = .ok (.laload, 1) := by decide +kernel
theorem dX11_few_165 : decode cX11_few 165 = .ok (.ladd, 1) := by decide +kernel
theorem dX11_few_166 : decode cX11_few 166 = .ok (.lstore_n 3, 1) := by decide +kernel
theorem dX11_few_167 : decode cX11_few 167 = .ok (.iinc 5 1, 3) := by decide +kernel
theorem dX11_few_170 : decode cX11_few 170 = .ok (.goto (-19), 3) := by decide +kernel
theorem dX11_few_173 : decode cX11_few 173 = .ok (.lload_n 3, 1) := by decide +kernel
theorem dX11_few_174 : decode cX11_few 174 = .ok (.lreturn, 1) := by decide +kernel
theorem dX11_stopped_0 : decode cX11_stopped 0 = .ok (.aload_n 0, 1) := by decide +kernel
theorem dX11_stopped_1 : decode cX11_stopped 1 = .ok (.getfield 94, 3) := by decide +kernel
theorem dX11_stopped_4 : decode cX11_stopped 4 = .ok (.ireturn, 1) := by decide +kernel
theorem dX11_orders_0 : decode cX11_orders 0 = .ok (.aload_n 0, 1) := by decide +kernel
theorem dX11_orders_1 : decode cX11_orders 1 = .ok (.iconst (-1), 1) := by decide +kernel
theorem dX11_orders_2 : decode cX11_orders 2 = .ok (.putfield 94, 3) := by decide +kernel
theorem dX11_orders_5 : decode cX11_orders 5 = .ok (.aload_n 0, 1) := by decide +kernel
theorem dX11_orders_6 : decode cX11_orders 6 = .ok (.iconst 1, 1) := by decide +kernel
theorem dX11_orders_7 : decode cX11_orders 7 = .ok (.invokevirtual 250, 3) := by decide +kernel
theorem dX11_orders_10 : decode cX11_orders 10 = .ok (.ifCond .ne 10, 3) := by decide +kernel
theorem dX11_orders_13 : decode cX11_orders 13 = .ok (.aload_n 0, 1) := by decide +kernel
theorem dX11_orders_14 : decode cX11_orders 14 = .ok (.bipush (-6), 2) := by decide +kernel
theorem dX11_orders_16 : decode cX11_orders 16 = .ok (.invokevirtual 106, 3) := by decide +kernel
theorem dX11_orders_19 : decode cX11_orders 19 = .ok (.ireturn, 1) := by decide +kernel
theorem dX11_orders_20 : decode cX11_orders 20 = .ok (.aload_n 0, 1) := by decide +kernel
theorem dX11_orders_21 : decode cX11_orders 21 = .ok (.iconst 1, 1) := by decide +kernel
theorem dX11_orders_22 : decode cX11_orders 22 = .ok (.invokevirtual 428, 3) := by decide +kernel
theorem dX11_orders_25 : decode cX11_orders 25 = .ok (.iconst 0, 1) := by decide +kernel
theorem dX11_orders_26 : decode cX11_orders 26 = .ok (.istore_n 1, 1) := by decide +kernel
theorem dX11_orders_27 : decode cX11_orders 27 = .ok (.iload_n 1, 1) := by decide +kernel
theorem dX11_orders_28 : decode cX11_orders 28 = .ok (.sipush 320, 3) := by decide +kernel
theorem dX11_orders_31 : decode cX11_orders 31 = .ok (.if_icmp .ge 21, 3) := by decide +kernel
theorem dX11_orders_34 : decode cX11_orders 34 = .ok (.aload_n 0, 1) := by decide +kernel
theorem dX11_orders_35 : decode cX11_orders 35 = .ok (.getfield 72, 3) := by decide +kernel
theorem dX11_orders_38 : decode cX11_orders 38 = .ok (.iload_n 1, 1) := by decide +kernel
theorem dX11_orders_39 : decode cX11_orders 39 = .ok (.aload_n 0, 1) := by decide +kernel
theorem dX11_orders_40 : decode cX11_orders 40 = .ok (.getfield 69, 3) := by decide +kernel
theorem dX11_orders_43 : decode cX11_orders 43 = .ok (.iload_n 1, 1) := by decide +kernel
theorem dX11_orders_44 : decode cX11_orders 44 = .ok (.iaload, 1) := by decide +kernel
theorem dX11_orders_45 : decode cX11_orders 45 = .ok (.iastore, 1) := by decide +kernel
theorem dX11_orders_46 : decode cX11_orders 46 = .ok (.iinc 1 1, 3) := by decide +kernel
theorem dX11_orders_49 : decode cX11_orders 49 = .ok (.goto (-22), 3) := by decide +kernel
theorem dX11_orders_52 : decode cX11_orders 52 = .ok (.aload_n 0, 1) := by decide +kernel
theorem dX11_orders_53 : decode cX11_orders 53 = .ok (.getfield 11, 3) := by decide +kernel
theorem dX11_orders_56 : decode cX11_orders 56 = .ok (.istore_n 1, 1) := by decide +kernel
theorem dX11_orders_57 : decode cX11_orders 57 = .ok (.aload_n 0, 1) := by decide +kernel
theorem dX11_orders_58 : decode cX11_orders 58 = .ok (.bipush 6, 2) := by decide +kernel
theorem dX11_orders_60 : decode cX11_orders 60 = .ok (.invokevirtual 254, 3) := by decide +kernel
theorem dX11_orders_63 : decode cX11_orders 63 = .ok (.aload_n 0, 1) := by decide +kernel
theorem dX11_orders_64 : decode cX11_orders 64 = .ok (.iconst 0, 1) := by decide +kernel
theorem dX11_orders_65 : decode cX11_orders 65 = .ok (.putfield 302, 3) := by decide +kernel
theorem dX11_orders_68 : decode cX11_orders 68 = .ok (.aload_n 0, 1) := by decide +kernel
theorem dX11_orders_69 : decode cX11_orders 69 = .ok (.iconst (-1), 1) := by decide +kernel
theorem dX11_orders_70 : decode cX11_orders 70 = .ok (.putfield 305, 3) := by decide +kernel
theorem dX11_orders_73 : decode cX11_orders 73 = .ok (.aload_n 0, 1) := by decide +kernel
theorem dX11_orders_74 : decode cX11_orders 74 = .ok (.sipush 2400, 3) := by decide +kernel
theorem dX11_orders_77 : decode cX11_orders 77 = .ok (.putfield 431, 3) := by decide +kernel
theorem dX11_orders_80 : decode cX11_orders 80 = .ok (.aload_n 0, 1) := by decide +kernel
theorem dX11_orders_81 : decode cX11_orders 81 = .ok (.getfield 431, 3) := by decide +kernel
theorem dX11_orders_84 : decode cX11_orders 84 = .ok (.aload_n 0, 1) := by decide +kernel
theorem dX11_orders_85 : decode cX11_orders 85 = .ok (.getfield 28, 3) := by decide +kernel
theorem dX11_orders_88 : decode cX11_orders 88 = .ok (.bipush 55, 2) := by decide +kernel
theorem dX11_orders_90 : decode cX11_orders 90 = .ok (.iaload, 1) := by decide +kernel
theorem dX11_orders_91 : decode cX11_orders 91 = .ok (.iadd, 1) := by decide +kernel
theorem dX11_orders_92 : decode cX11_orders 92 = .ok (.istore_n 2, 1) := by decide +kernel
theorem dX11_orders_93 : decode cX11_orders 93 = .ok (.iconst 0, 1) := by decide +kernel
theorem dX11_orders_94 : decode cX11_orders 94 = .ok (.istore_n 3, 1) := by decide +kernel
theorem dX11_orders_95 : decode cX11_orders 95 = .ok (.aload_n 0, 1) := by decide +kernel
theorem dX11_orders_96 : decode cX11_orders 96 = .ok (.getfield 431, 3) := by decide +kernel
theorem dX11_orders_99 : decode cX11_orders 99 = .ok (.iload_n 2, 1) := by decide +kernel
theorem dX11_orders_100 : decode cX11_orders 100 = .ok (.if_icmp .ge 73, 3) := by decide +kernel
theorem dX11_orders_103 : decode cX11_orders 103 = .ok (.aload_n 0, 1) := by decide +kernel
theorem dX11_orders_104 : decode cX11_orders 104 = .ok (.iload_n 2, 1) := by decide +kernel
theorem dX11_orders_105 : decode cX11_orders 105 = .ok (.invokevirtual 434, 3) := by decide +kernel
theorem dX11_orders_108 : decode cX11_orders 108 = .ok (.ifCond .eq 6, 3) := by decide +kernel
theorem dX11_orders_111 : decode cX11_orders 111 = .ok (.goto 56, 3) := by decide +kernel
theorem dX11_orders_114 : decode cX11_orders 114 = .ok (.aload_n 0, 1) := by decide +kernel
theorem dX11_orders_115 : decode cX11_orders 115 = .ok (.iconst 1, 1) := by decide +kernel
theorem dX11_orders_116 : decode cX11_orders 116 = .ok (.invokevirtual 437, 3) := by decide +kernel
theorem dX11_orders_119 : decode cX11_orders 119 = .ok (.iconst 0, 1) := by decide +kernel
theorem dX11_orders_120 : decode cX11_orders 120 = .ok (.istore 4, 2) := by decide +kernel
theorem dX11_orders_122 : decode cX11_orders 122 = .ok (.iload 4, 2) := by decide +kernel
theorem dX11_orders_124 : decode cX11_orders 124 = .ok (.sipush 320, 3) := by decide +kernel
theorem dX11_orders_127 : decode cX11_orders 127 = .ok (.if_icmp .ge 23, 3) := by decide +kernel
theorem dX11_orders_130 : decode cX11_orders 130 = .ok (.aload_n 0, 1) := by decide +kernel
theorem dX11_orders_131 : decode cX11_orders 131 = .ok (.getfield 69, 3) := by decide +kernel
theorem dX11_orders_134 : decode cX11_orders 134 = .ok (.iload 4, 2) := by decide +kernel
theorem dX11_orders_136 : decode cX11_orders 136 = .ok (.aload_n 0, 1) := by decide +kernel
theorem dX11_orders_137 : decode cX11_orders 137 = .ok (.getfield 72, 3) := by decide +kernel
theorem dX11_orders_140 : decode cX11_orders 140 = .ok (.iload 4, 2) := by decide +kernel
theorem dX11_orders_142 : decode cX11_orders 142 = .ok (.iaload, 1) := by decide +kernel
theorem dX11_orders_143 : decode cX11_orders 143 = .ok (.iastore, 1) := by decide +kernel
theorem dX11_orders_144 : decode cX11_orders 144 = .ok (.iinc 4 1, 3) := by decide +kernel
theorem dX11_orders_147 : decode cX11_orders 147 = .ok (.goto (-25), 3) := by decide +kernel
theorem dX11_orders_150 : decode cX11_orders 150 = .ok (.aload_n 0, 1) := by decide +kernel
theorem dX11_orders_151 : decode cX11_orders 151 = .ok (.iload_n 1, 1) := by decide +kernel
theorem dX11_orders_152 : decode cX11_orders 152 = .ok (.putfield 11, 3) := by decide +kernel
theorem dX11_orders_155 : decode cX11_orders 155 = .ok (.aload_n 0, 1) := by decide +kernel
theorem dX11_orders_156 : decode cX11_orders 156 = .ok (.iload_n 3, 1) := by decide +kernel
theorem dX11_orders_157 : decode cX11_orders 157 = .ok (.putfield 94, 3) := by decide +kernel
theorem dX11_orders_160 : decode cX11_orders 160 = .ok (.aload_n 0, 1) := by decide +kernel
theorem dX11_orders_161 : decode cX11_orders 161 = .ok (.bipush (-3), 2) := by decide +kernel
theorem dX11_orders_163 : decode cX11_orders 163 = .ok (.invokevirtual 106, 3) := by decide +kernel
theorem dX11_orders_166 : decode cX11_orders 166 = .ok (.ireturn, 1) := by decide +kernel
theorem dX11_orders_167 : decode cX11_orders 167 = .ok (.iinc 3 1, 3) := by decide +kernel
theorem dX11_orders_170 : decode cX11_orders 170 = .ok (.goto (-75), 3) := by decide +kernel
theorem dX11_orders_173 : decode cX11_orders 173 = .ok (.aload_n 0, 1) := by decide +kernel
theorem dX11_orders_174 : decode cX11_orders 174 = .ok (.aload_n 0, 1) := by decide +kernel
theorem dX11_orders_175 : decode cX11_orders 175 = .ok (.getfield 302, 3) := by decide +kernel
theorem dX11_orders_178 : decode cX11_orders 178 = .ok (.invokevirtual 14, 3) := by decide +kernel
theorem dX11_orders_181 : decode cX11_orders 181 = .ok (.ireturn, 1) := by decide +kernel
theorem dX11_goesAlong_0 : decode cX11_goesAlong 0 = .ok (.aload_n 0, 1) := by decide +kernel
theorem dX11_goesAlong_1 : decode cX11_goesAlong 1 = .ok (.iload_n 2, 1) := by decide +kernel
theorem dX11_goesAlong_2 : decode cX11_goesAlong 2 = .ok (.ifCond .eq 11, 3) := by decide +kernel
theorem dX11_goesAlong_5 : decode cX11_goesAlong 5 = .ok (.aload_n 0, 1) := by decide +kernel
theorem dX11_goesAlong_6 : decode cX11_goesAlong 6 = .ok (.iconst 0, 1) := by decide +kernel
theorem dX11_goesAlong_7 : decode cX11_goesAlong 7 = .ok (.invokevirtual 344, 3) := by decide +kernel
theorem dX11_goesAlong_10 : decode cX11_goesAlong 10 = .ok (.goto 4, 3) := by decide +kernel
theorem dX11_goesAlong_13 : decode cX11_goesAlong 13 = .ok (.iconst 0, 1) := by decide +kernel
theorem dX11_goesAlong_14 : decode cX11_goesAlong 14 = .ok (.putfield 308, 3) := by decide +kernel
theorem dX11_goesAlong_17 : decode cX11_goesAlong 17 = .ok (.aload_n 0, 1) := by decide +kernel
theorem dX11_goesAlong_18 : decode cX11_goesAlong 18 = .ok (.iconst 1, 1) := by decide +kernel
theorem dX11_goesAlong_19 : decode cX11_goesAlong 19 = .ok (.putfield 293, 3) := by decide +kernel
theorem dX11_goesAlong_22 : decode cX11_goesAlong 22 = .ok (.aload_n 0, 1) := by decide +kernel
theorem dX11_goesAlong_23 : decode cX11_goesAlong 23 = .ok (.iload_n 1, 1) := by decide +kernel
theorem dX11_goesAlong_24 : decode cX11_goesAlong 24 = .ok (.putfield 260, 3) := by decide +kernel
theorem dX11_goesAlong_27 : decode cX11_goesAlong 27 = .ok (.aload_n 0, 1) := by decide +kernel
theorem dX11_goesAlong_28 : decode cX11_goesAlong 28 = .ok (.aload_n 0, 1) := by decide +kernel
theorem dX11_goesAlong_29 : decode cX11_goesAlong 29 = .ok (.getfield 431, 3) := by decide +kernel
theorem dX11_goesAlong_32 : decode cX11_goesAlong 32 = .ok (.putfield 263, 3) := by decide +kernel
theorem dX11_goesAlong_35 : decode cX11_goesAlong 35 = .ok (.aload_n 0, 1) := by decide +kernel
theorem dX11_goesAlong_36 : decode cX11_goesAlong 36 = .ok (.aload_n 0, 1) := by decide +kernel
theorem dX11_goesAlong_37 : decode cX11_goesAlong 37 = .ok (.aload_n 0, 1) := by decide +kernel
theorem dX11_goesAlong_38 : decode cX11_goesAlong 38 = .ok (.getfield 263, 3) := by decide +kernel
theorem dX11_goesAlong_41 : decode cX11_goesAlong 41 = .ok (.invokevirtual 266, 3) := by decide +kernel
theorem dX11_goesAlong_44 : decode cX11_goesAlong 44 = .ok (.putfield 440, 3) := by decide +kernel
theorem dX11_goesAlong_47 : decode cX11_goesAlong 47 = .ok (.aload_n 0, 1) := by decide +kernel
theorem dX11_goesAlong_48 : decode cX11_goesAlong 48 = .ok (.dup, 1) := by decide +kernel
theorem dX11_goesAlong_49 : decode cX11_goesAlong 49 = .ok (.getfield 263, 3) := by decide +kernel
theorem dX11_goesAlong_52 : decode cX11_goesAlong 52 = .ok (.iconst 1, 1) := by decide +kernel
theorem dX11_goesAlong_53 : decode cX11_goesAlong 53 = .ok (.iadd, 1) := by decide +kernel
theorem dX11_goesAlong_54 : decode cX11_goesAlong 54 = .ok (.putfield 263, 3) := by decide +kernel
theorem dX11_goesAlong_57 : decode cX11_goesAlong 57 = .ok (.aload_n 0, 1) := by decide +kernel
theorem dX11_goesAlong_58 : decode cX11_goesAlong 58 = .ok (.iconst 1, 1) := by decide +kernel
theorem dX11_goesAlong_59 : decode cX11_goesAlong 59 = .ok (.putfield 443, 3) := by decide +kernel
theorem dX11_goesAlong_62 : decode cX11_goesAlong 62 = .ok (.aload_n 0, 1) := by decide +kernel
theorem dX11_goesAlong_63 : decode cX11_goesAlong 63 = .ok (.getfield 440, 3) := by decide +kernel
theorem dX11_goesAlong_66 : decode cX11_goesAlong 66 = .ok (.bipush 24, 2) := by decide +kernel
theorem dX11_goesAlong_68 : decode cX11_goesAlong 68 = .ok (.if_icmp .ne 7, 3) := by decide +kernel
theorem dX11_goesAlong_71 : decode cX11_goesAlong 71 = .ok (.iconst 0, 1) := by decide +kernel
theorem dX11_goesAlong_72 : decode cX11_goesAlong 72 = .ok (.goto 17, 3) := by decide +kernel
theorem dX11_goesAlong_75 : decode cX11_goesAlong 75 = .ok (.aload_n 0, 1) := by decide +kernel
theorem dX11_goesAlong_76 : decode cX11_goesAlong 76 = .ok (.getfield 440, 3) := by decide +kernel
theorem dX11_goesAlong_79 : decode cX11_goesAlong 79 = .ok (.bipush 23, 2) := by decide +kernel
theorem dX11_goesAlong_81 : decode cX11_goesAlong 81 = .ok (.if_icmp .ne 7, 3) := by decide +kernel
theorem dX11_goesAlong_84 : decode cX11_goesAlong 84 = .ok (.iconst 1, 1) := by decide +kernel
theorem dX11_goesAlong_85 : decode cX11_goesAlong 85 = .ok (.goto 4, 3) := by decide +kernel
theorem dX11_goesAlong_88 : decode cX11_goesAlong 88 = .ok (.iconst 2, 1) := by decide +kernel
theorem dX11_goesAlong_89 : decode cX11_goesAlong 89 = .ok (.istore_n 3, 1) := by decide +kernel
theorem dX11_goesAlong_90 : decode cX11_goesAlong 90 = .ok (.iconst 0, 1) := by decide +kernel
theorem dX11_goesAlong_91 : decode cX11_goesAlong 91 = .ok (.istore 4, 2) := by decide +kernel
theorem dX11_goesAlong_93 : decode cX11_goesAlong 93 = .ok (.iload 4, 2) := by decide +kernel
theorem dX11_goesAlong_95 : decode cX11_goesAlong 95 = .ok (.iload_n 3, 1) := by decide +kernel
theorem dX11_goesAlong_96 : decode cX11_goesAlong 96 = .ok (.if_icmp .ge 64, 3) := by decide +kernel
theorem dX11_goesAlong_99 : decode cX11_goesAlong 99 = .ok (.iload 4, 2) := by decide +kernel
theorem dX11_goesAlong_101 : decode cX11_goesAlong 101 = .ok (.ifCond .le 13, 3) := by decide +kernel
theorem dX11_goesAlong_104 : decode cX11_goesAlong 104 = .ok (.aload_n 0, 1) := by decide +kernel
theorem dX11_goesAlong_105 : decode cX11_goesAlong 105 = .ok (.dup, 1) := by decide +kernel
theorem dX11_goesAlong_106 : decode cX11_goesAlong 106 = .ok (.getfield 263, 3) := by decide +kernel
theorem dX11_goesAlong_109 : decode cX11_goesAlong 109 = .ok (.iconst 1, 1) := by decide +kernel
theorem dX11_goesAlong_110 : decode cX11_goesAlong 110 = .ok (.iadd, 1) := by decide +kernel
theorem dX11_goesAlong_111 : decode cX11_goesAlong 111 = .ok (.putfield 263, 3) := by decide +kernel
theorem dX11_goesAlong_114 : decode cX11_goesAlong 114 = .ok (.aload_n 0, 1) := by decide +kernel
theorem dX11_goesAlong_115 : decode cX11_goesAlong 115 = .ok (.iconst 0, 1) := by decide +kernel
theorem dX11_goesAlong_116 : decode cX11_goesAlong 116 = .ok (.putfield 273, 3) := by decide +kernel
theorem dX11_goesAlong_119 : decode cX11_goesAlong 119 = .ok (.aload_n 0, 1) := by decide +kernel
theorem dX11_goesAlong_120 : decode cX11_goesAlong 120 = .ok (.getfield 97, 3) := by decide +kernel
theorem dX11_goesAlong_123 : decode cX11_goesAlong 123 = .ok (.iload 4, 2) := by decide +kernel
theorem dX11_goesAlong_125 : decode cX11_goesAlong 125 = .ok (.aload_n 0, 1) := by decide +kernel
theorem dX11_goesAlong_126 : decode cX11_goesAlong 126 = .ok (.iload_n 2, 1) := by decide +kernel
theorem dX11_goesAlong_127 : decode cX11_goesAlong 127 = .ok (.invokevirtual 290, 3) := by decide +kernel
theorem dX11_goesAlong_130 : decode cX11_goesAlong 130 = .ok (.lastore, 1) := by decide +kernel
theorem dX11_goesAlong_131 : decode cX11_goesAlong 131 = .ok (.aload_n 0, 1) := by decide +kernel
theorem dX11_goesAlong_132 : decode cX11_goesAlong 132 = .ok (.aload_n 0, 1) := by decide +kernel
theorem dX11_goesAlong_133 : decode cX11_goesAlong 133 = .ok (.getfield 443, 3) := by decide +kernel
theorem dX11_goesAlong_136 : decode cX11_goesAlong 136 = .ok (.ifCond .eq 14, 3) := by decide +kernel
theorem dX11_goesAlong_139 : decode cX11_goesAlong 139 = .ok (.aload_n 0, 1) := by decide +kernel
theorem dX11_goesAlong_140 : decode cX11_goesAlong 140 = .ok (.getfield 273, 3) := by decide +kernel
theorem dX11_goesAlong_143 : decode cX11_goesAlong 143 = .ok (.ifCond .ne 7, 3) := by decide +kernel
theorem dX11_goesAlong_146 : decode cX11_goesAlong 146 = .ok (.iconst 1, 1) := by decide +kernel
theorem dX11_goesAlong_147 : decode cX11_goesAlong 147 = .ok (.goto 4, 3) := by decide +kernel
theorem dX11_goesAlong_150 : decode cX11_goesAlong 150 = .ok (.iconst 0, 1) := by decide +kernel
theorem dX11_goesAlong_151 : decode cX11_goesAlong 151 = .ok (.putfield 443, 3) := by decide +kernel
theorem dX11_goesAlong_154 : decode cX11_goesAlong 154 = .ok (.iinc 4 1, 3) := by decide +kernel
theorem dX11_goesAlong_157 : decode cX11_goesAlong 157 = .ok (.goto (-64), 3) := by decide +kernel
theorem dX11_goesAlong_160 : decode cX11_goesAlong 160 = .ok (.aload_n 0, 1) := by decide +kernel
theorem dX11_goesAlong_161 : decode cX11_goesAlong 161 = .ok (.iconst 1, 1) := by decide +kernel
theorem dX11_goesAlong_162 : decode cX11_goesAlong 162 = .ok (.putfield 446, 3) := by decide +kernel
theorem dX11_goesAlong_165 : decode cX11_goesAlong 165 = .ok (.aload_n 0, 1) := by decide +kernel
theorem dX11_goesAlong_166 : decode cX11_goesAlong 166 = .ok (.bipush 25, 2) := by decide +kernel
theorem dX11_goesAlong_168 : decode cX11_goesAlong 168 = .ok (.invokevirtual 287, 3) := by decide +kernel
theorem dX11_goesAlong_171 : decode cX11_goesAlong 171 = .ok (.ifCond .eq 30, 3) := by decide +kernel
theorem dX11_goesAlong_174 : decode cX11_goesAlong 174 = .ok (.aload_n 0, 1) := by decide +kernel
theorem dX11_goesAlong_175 : decode cX11_goesAlong 175 = .ok (.aload_n 0, 1) := by decide +kernel
theorem dX11_goesAlong_176 : decode cX11_goesAlong 176 = .ok (.getfield 28, 3) := by decide +kernel
theorem dX11_goesAlong_179 : decode cX11_goesAlong 179 = .ok (.sipush 2856, 3) := by decide +kernel
theorem dX11_goesAlong_182 : decode cX11_goesAlong 182 = .ok (.aload_n 0, 1) := by decide +kernel
theorem dX11_goesAlong_183 : decode cX11_goesAlong 183 = .ok (.getfield 263, 3) := by decide +kernel
theorem dX11_goesAlong_186 : decode cX11_goesAlong 186 = .ok (.iadd, 1) := by decide +kernel
theorem dX11_goesAlong_187 : decode cX11_goesAlong 187 = .ok (.iaload, 1) := by decide +kernel
theorem dX11_goesAlong_188 : decode cX11_goesAlong 188 = .ok (.putfield 446, 3) := by decide +kernel
theorem dX11_goesAlong_191 : decode cX11_goesAlong 191 = .ok (.aload_n 0, 1) := by decide +kernel
theorem dX11_goesAlong_192 : decode cX11_goesAlong 192 = .ok (.dup, 1) := by decide +kernel
theorem dX11_goesAlong_193 : decode cX11_goesAlong 193 = .ok (.getfield 263, 3) := by decide +kernel
theorem dX11_goesAlong_196 : decode cX11_goesAlong 196 = .ok (.iconst 1, 1) := by decide +kernel
theorem dX11_goesAlong_197 : decode cX11_goesAlong 197 = .ok (.iadd, 1) := by decide +kernel
theorem dX11_goesAlong_198 : decode cX11_goesAlong 198 = .ok (.putfield 263, 3) := by decide +kernel
theorem dX11_goesAlong_201 : decode cX11_goesAlong 201 = .ok (.aload_n 0, 1) := by decide +kernel
theorem dX11_goesAlong_202 : decode cX11_goesAlong 202 = .ok (.iconst 0, 1) := by decide +kernel
theorem dX11_goesAlong_203 : decode cX11_goesAlong 203 = .ok (.putfield 273, 3) := by decide +kernel
theorem dX11_goesAlong_206 : decode cX11_goesAlong 206 = .ok (.aload_n 0, 1) := by decide +kernel
theorem dX11_goesAlong_207 : decode cX11_goesAlong 207 = .ok (.aload_n 0, 1) := by decide +kernel
theorem dX11_goesAlong_208 : decode cX11_goesAlong 208 = .ok (.iconst 4, 1) := by decide +kernel
theorem dX11_goesAlong_209 : decode cX11_goesAlong 209 = .ok (.invokevirtual 287, 3) := by decide +kernel
theorem dX11_goesAlong_212 : decode cX11_goesAlong 212 = .ok (.ifCond .eq 11, 3) := by decide +kernel
theorem dX11_goesAlong_215 : decode cX11_goesAlong 215 = .ok (.aload_n 0, 1) := by decide +kernel
theorem dX11_goesAlong_216 : decode cX11_goesAlong 216 = .ok (.iload_n 2, 1) := by decide +kernel
theorem dX11_goesAlong_217 : decode cX11_goesAlong 217 = .ok (.invokevirtual 323, 3) := by decide +kernel
theorem dX11_goesAlong_220 : decode cX11_goesAlong 220 = .ok (.ifCond .eq 7, 3) := by decide +kernel
theorem dX11_goesAlong_223 : decode cX11_goesAlong 223 = .ok (.iconst 1, 1) := by decide +kernel
theorem dX11_goesAlong_224 : decode cX11_goesAlong 224 = .ok (.goto 4, 3) := by decide +kernel
theorem dX11_goesAlong_227 : decode cX11_goesAlong 227 = .ok (.iconst 0, 1) := by decide +kernel
theorem dX11_goesAlong_228 : decode cX11_goesAlong 228 = .ok (.putfield 449, 3) := by decide +kernel
theorem dX11_goesAlong_231 : decode cX11_goesAlong 231 = .ok (.aload_n 0, 1) := by decide +kernel
theorem dX11_goesAlong_232 : decode cX11_goesAlong 232 = .ok (.aload_n 0, 1) := by decide +kernel
theorem dX11_goesAlong_233 : decode cX11_goesAlong 233 = .ok (.getfield 449, 3) := by decide +kernel
theorem dX11_goesAlong_236 : decode cX11_goesAlong 236 = .ok (.ifCond .eq 14, 3) := by decide +kernel
theorem dX11_goesAlong_239 : decode cX11_goesAlong 239 = .ok (.aload_n 0, 1) := by decide +kernel
theorem dX11_goesAlong_240 : decode cX11_goesAlong 240 = .ok (.getfield 273, 3) := by decide +kernel
theorem dX11_goesAlong_243 : decode cX11_goesAlong 243 = .ok (.ifCond .ne 7, 3) := by decide +kernel
theorem dX11_goesAlong_246 : decode cX11_goesAlong 246 = .ok (.iconst 1, 1) := by decide +kernel
theorem dX11_goesAlong_247 : decode cX11_goesAlong 247 = .ok (.goto 4, 3) := by decide +kernel
theorem dX11_goesAlong_250 : decode cX11_goesAlong 250 = .ok (.iconst 0, 1) := by decide +kernel
theorem dX11_goesAlong_251 : decode cX11_goesAlong 251 = .ok (.putfield 449, 3) := by decide +kernel
theorem dX11_goesAlong_254 : decode cX11_goesAlong 254 = .ok (.aload_n 0, 1) := by decide +kernel
theorem dX11_goesAlong_255 : decode cX11_goesAlong 255 = .ok (.dup, 1) := by decide +kernel
theorem dX11_goesAlong_256 : decode cX11_goesAlong 256 = .ok (.getfield 263, 3) := by decide +kernel
theorem dX11_goesAlong_259 : decode cX11_goesAlong 259 = .ok (.iconst 1, 1) := by decide +kernel
theorem dX11_goesAlong_260 : decode cX11_goesAlong 260 = .ok (.iadd, 1) := by decide +kernel
theorem dX11_goesAlong_261 : decode cX11_goesAlong 261 = .ok (.putfield 263, 3) := by decide +kernel
theorem dX11_goesAlong_264 : decode cX11_goesAlong 264 = .ok (.return_, 1) := by decide +kernel
theorem dX11_small_0 : decode cX11_small 0 = .ok (.lload_n 0, 1) := by decide +kernel
theorem dX11_small_1 : decode cX11_small 1 = .ok (.lconst 0, 1) := by decide +kernel
theorem dX11_small_2 : decode cX11_small 2 = .ok (.lcmp, 1) := by decide +kernel
theorem dX11_small_3 : decode cX11_small 3 = .ok (.ifCond .lt 11, 3) := by decide +kernel
theorem dX11_small_6 : decode cX11_small 6 = .ok (.lload_n 0, 1) := by decide +kernel
theorem dX11_small_7 : decode cX11_small 7 = .ok (.ldc2_w 452, 3) := by decide +kernel
theorem dX11_small_10 : decode cX11_small 10 = .ok (.lcmp, 1) := by decide +kernel
theorem dX11_small_11 : decode cX11_small 11 = .ok (.ifCond .le 7, 3) := by decide +kernel
theorem dX11_small_14 : decode cX11_small 14 = .ok (.iconst (-1), 1) := by decide +kernel
theorem dX11_small_15 : decode cX11_small 15 = .ok (.goto 5, 3) := by decide +kernel
theorem dX11_small_18 : decode cX11_small 18 = .ok (.lload_n 0, 1) := by decide +kernel
theorem dX11_small_19 : decode cX11_small 19 = .ok (.l2i, 1) := by decide +kernel
theorem dX11_small_20 : decode cX11_small 20 = .ok (.ireturn, 1) := by decide +kernel
theorem dX11_obeys_0 : decode cX11_obeys 0 = .ok (.aload_n 0, 1) := by decide +kernel
theorem dX11_obeys_1 : decode cX11_obeys 1 = .ok (.getfield 97, 3) := by decide +kernel
theorem dX11_obeys_4 : decode cX11_obeys 4 = .ok (.iconst 0, 1) := by decide +kernel
theorem dX11_obeys_5 : decode cX11_obeys 5 = .ok (.laload, 1) := by decide +kernel
theorem dX11_obeys_6 : decode cX11_obeys 6 = .ok (.invokestatic 454, 3) := by decide +kernel
theorem dX11_obeys_9 : decode cX11_obeys 9 = .ok (.istore_n 1, 1) := by decide +kernel
theorem dX11_obeys_10 : decode cX11_obeys 10 = .ok (.aload_n 0, 1) := by decide +kernel
theorem dX11_obeys_11 : decode cX11_obeys 11 = .ok (.getfield 440, 3) := by decide +kernel
theorem dX11_obeys_14 : decode cX11_obeys 14 = .ok (.tableswitch 74 21 24 #[30, 74, 45, 51], 30) := by decide +kernel
theorem dX11_obeys_44 : decode cX11_obeys 44 = .ok (.aload_n 0, 1) := by decide +kernel
theorem dX11_obeys_45 : decode cX11_obeys 45 = .ok (.iload_n 1, 1) := by decide +kernel
theorem dX11_obeys_46 : decode cX11_obeys 46 = .ok (.aload_n 0, 1) := by decide +kernel
theorem dX11_obeys_47 : decode cX11_obeys 47 = .ok (.getfield 97, 3) := by decide +kernel
theorem dX11_obeys_50 : decode cX11_obeys 50 = .ok (.iconst 1, 1) := by decide +kernel
theorem dX11_obeys_51 : decode cX11_obeys 51 = .ok (.laload, 1) := by decide +kernel
theorem dX11_obeys_52 : decode cX11_obeys 52 = .ok (.invokestatic 454, 3) := by decide +kernel
theorem dX11_obeys_55 : decode cX11_obeys 55 = .ok (.invokevirtual 368, 3) := by decide +kernel
theorem dX11_obeys_58 : decode cX11_obeys 58 = .ok (.ireturn, 1) := by decide +kernel
theorem dX11_obeys_59 : decode cX11_obeys 59 = .ok (.aload_n 0, 1) := by decide +kernel
theorem dX11_obeys_60 : decode cX11_obeys 60 = .ok (.iload_n 1, 1) := by decide +kernel
theorem dX11_obeys_61 : decode cX11_obeys 61 = .ok (.invokevirtual 371, 3) := by decide +kernel
theorem dX11_obeys_64 : decode cX11_obeys 64 = .ok (.ireturn, 1) := by decide +kernel
theorem dX11_obeys_65 : decode cX11_obeys 65 = .ok (.aload_n 0, 1) := by decide +kernel
theorem dX11_obeys_66 : decode cX11_obeys 66 = .ok (.invokevirtual 374, 3) := by decide +kernel
theorem dX11_obeys_69 : decode cX11_obeys 69 = .ok (.istore_n 2, 1) := by decide +kernel
theorem dX11_obeys_70 : decode cX11_obeys 70 = .ok (.aload_n 0, 1) := by decide +kernel
theorem dX11_obeys_71 : decode cX11_obeys 71 = .ok (.iload_n 2, 1) := by decide +kernel
theorem dX11_obeys_72 : decode cX11_obeys 72 = .ok (.ifCond .ge 10, 3) := by decide +kernel
theorem dX11_obeys_75 : decode cX11_obeys 75 = .ok (.aload_n 0, 1) := by decide +kernel
theorem dX11_obeys_76 : decode cX11_obeys 76 = .ok (.getfield 305, 3) := by decide +kernel
theorem dX11_obeys_79 : decode cX11_obeys 79 = .ok (.goto 4, 3) := by decide +kernel
theorem dX11_obeys_82 : decode cX11_obeys 82 = .ok (.iload_n 2, 1) := by decide +kernel
theorem dX11_obeys_83 : decode cX11_obeys 83 = .ok (.putfield 305, 3) := by decide +kernel
theorem dX11_obeys_86 : decode cX11_obeys 86 = .ok (.iload_n 2, 1) := by decide +kernel
theorem dX11_obeys_87 : decode cX11_obeys 87 = .ok (.ireturn, 1) := by decide +kernel
theorem dX11_obeys_88 : decode cX11_obeys 88 = .ok (.aload_n 0, 1) := by decide +kernel
theorem dX11_obeys_89 : decode cX11_obeys 89 = .ok (.iload_n 1, 1) := by decide +kernel
theorem dX11_obeys_90 : decode cX11_obeys 90 = .ok (.aload_n 0, 1) := by decide +kernel
theorem dX11_obeys_91 : decode cX11_obeys 91 = .ok (.getfield 97, 3) := by decide +kernel
theorem dX11_obeys_94 : decode cX11_obeys 94 = .ok (.iconst 1, 1) := by decide +kernel
theorem dX11_obeys_95 : decode cX11_obeys 95 = .ok (.laload, 1) := by decide +kernel
theorem dX11_obeys_96 : decode cX11_obeys 96 = .ok (.invokestatic 454, 3) := by decide +kernel
theorem dX11_obeys_99 : decode cX11_obeys 99 = .ok (.invokevirtual 362, 3) := by decide +kernel
theorem dX11_obeys_102 : decode cX11_obeys 102 = .ok (.ireturn, 1) := by decide +kernel
theorem dX11_runs_0 : decode cX11_runs 0 = .ok (.aload_n 0, 1) := by decide +kernel
theorem dX11_runs_1 : decode cX11_runs 1 = .ok (.iload_n 1, 1) := by decide +kernel
theorem dX11_runs_2 : decode cX11_runs 2 = .ok (.iconst 0, 1) := by decide +kernel
theorem dX11_runs_3 : decode cX11_runs 3 = .ok (.invokevirtual 458, 3) := by decide +kernel
theorem dX11_runs_6 : decode cX11_runs 6 = .ok (.aload_n 0, 1) := by decide +kernel
theorem dX11_runs_7 : decode cX11_runs 7 = .ok (.getfield 446, 3) := by decide +kernel
theorem dX11_runs_10 : decode cX11_runs 10 = .ok (.istore_n 2, 1) := by decide +kernel
theorem dX11_runs_11 : decode cX11_runs 11 = .ok (.aload_n 0, 1) := by decide +kernel
theorem dX11_runs_12 : decode cX11_runs 12 = .ok (.getfield 263, 3) := by decide +kernel
theorem dX11_runs_15 : decode cX11_runs 15 = .ok (.istore_n 3, 1) := by decide +kernel
theorem dX11_runs_16 : decode cX11_runs 16 = .ok (.iconst 0, 1) := by decide +kernel
theorem dX11_runs_17 : decode cX11_runs 17 = .ok (.istore 4, 2) := by decide +kernel
theorem dX11_runs_19 : decode cX11_runs 19 = .ok (.iload 4, 2) := by decide +kernel
theorem dX11_runs_21 : decode cX11_runs 21 = .ok (.iload_n 2, 1) := by decide +kernel
theorem dX11_runs_22 : decode cX11_runs 22 = .ok (.if_icmp .ge 51, 3) := by decide +kernel
theorem dX11_runs_25 : decode cX11_runs 25 = .ok (.aload_n 0, 1) := by decide +kernel
theorem dX11_runs_26 : decode cX11_runs 26 = .ok (.iload_n 1, 1) := by decide +kernel
theorem dX11_runs_27 : decode cX11_runs 27 = .ok (.iconst 1, 1) := by decide +kernel
theorem dX11_runs_28 : decode cX11_runs 28 = .ok (.invokevirtual 458, 3) := by decide +kernel
theorem dX11_runs_31 : decode cX11_runs 31 = .ok (.aload_n 0, 1) := by decide +kernel
theorem dX11_runs_32 : decode cX11_runs 32 = .ok (.getfield 449, 3) := by decide +kernel
theorem dX11_runs_35 : decode cX11_runs 35 = .ok (.ifCond .ne 6, 3) := by decide +kernel
theorem dX11_runs_38 : decode cX11_runs 38 = .ok (.goto 29, 3) := by decide +kernel
theorem dX11_runs_41 : decode cX11_runs 41 = .ok (.aload_n 0, 1) := by decide +kernel
theorem dX11_runs_42 : decode cX11_runs 42 = .ok (.getfield 443, 3) := by decide +kernel
theorem dX11_runs_45 : decode cX11_runs 45 = .ok (.ifCond .eq 10, 3) := by decide +kernel
theorem dX11_runs_48 : decode cX11_runs 48 = .ok (.aload_n 0, 1) := by decide +kernel
theorem dX11_runs_49 : decode cX11_runs 49 = .ok (.invokevirtual 462, 3) := by decide +kernel
theorem dX11_runs_52 : decode cX11_runs 52 = .ok (.ifCond .ge 5, 3) := by decide +kernel
theorem dX11_runs_55 : decode cX11_runs 55 = .ok (.iconst 0, 1) := by decide +kernel
theorem dX11_runs_56 : decode cX11_runs 56 = .ok (.ireturn, 1) := by decide +kernel
theorem dX11_runs_57 : decode cX11_runs 57 = .ok (.aload_n 0, 1) := by decide +kernel
theorem dX11_runs_58 : decode cX11_runs 58 = .ok (.dup, 1) := by decide +kernel
theorem dX11_runs_59 : decode cX11_runs 59 = .ok (.getfield 302, 3) := by decide +kernel
theorem dX11_runs_62 : decode cX11_runs 62 = .ok (.iconst 1, 1) := by decide +kernel
theorem dX11_runs_63 : decode cX11_runs 63 = .ok (.iadd, 1) := by decide +kernel
theorem dX11_runs_64 : decode cX11_runs 64 = .ok (.putfield 302, 3) := by decide +kernel
theorem dX11_runs_67 : decode cX11_runs 67 = .ok (.iinc 4 1, 3) := by decide +kernel
theorem dX11_runs_70 : decode cX11_runs 70 = .ok (.goto (-51), 3) := by decide +kernel
theorem dX11_runs_73 : decode cX11_runs 73 = .ok (.aload_n 0, 1) := by decide +kernel
theorem dX11_runs_74 : decode cX11_runs 74 = .ok (.iload_n 3, 1) := by decide +kernel
theorem dX11_runs_75 : decode cX11_runs 75 = .ok (.putfield 431, 3) := by decide +kernel
theorem dX11_runs_78 : decode cX11_runs 78 = .ok (.iconst 1, 1) := by decide +kernel
theorem dX11_runs_79 : decode cX11_runs 79 = .ok (.ireturn, 1) := by decide +kernel
theorem dX11_draws_0 : decode cX11_draws 0 = .ok (.aload_n 0, 1) := by decide +kernel
theorem dX11_draws_1 : decode cX11_draws 1 = .ok (.ldc2_w 465, 3) := by decide +kernel
theorem dX11_draws_4 : decode cX11_draws 4 = .ok (.aload_n 0, 1) := by decide +kernel
theorem dX11_draws_5 : decode cX11_draws 5 = .ok (.getfield 467, 3) := by decide +kernel
theorem dX11_draws_8 : decode cX11_draws 8 = .ok (.i2l, 1) := by decide +kernel
theorem dX11_draws_9 : decode cX11_draws 9 = .ok (.lmul, 1) := by decide +kernel
theorem dX11_draws_10 : decode cX11_draws 10 = .ok (.ldc2_w 470, 3) := by decide +kernel
theorem dX11_draws_13 : decode cX11_draws 13 = .ok (.ladd, 1) := by decide +kernel
theorem dX11_draws_14 : decode cX11_draws 14 = .ok (.ldc2_w 472, 3) := by decide +kernel
theorem dX11_draws_17 : decode cX11_draws 17 = .ok (.lrem, 1) := by decide +kernel
theorem dX11_draws_18 : decode cX11_draws 18 = .ok (.l2i, 1) := by decide +kernel
theorem dX11_draws_19 : decode cX11_draws 19 = .ok (.putfield 467, 3) := by decide +kernel
theorem dX11_draws_22 : decode cX11_draws 22 = .ok (.aload_n 0, 1) := by decide +kernel
theorem dX11_draws_23 : decode cX11_draws 23 = .ok (.getfield 467, 3) := by decide +kernel
theorem dX11_draws_26 : decode cX11_draws 26 = .ok (.iload_n 1, 1) := by decide +kernel
theorem dX11_draws_27 : decode cX11_draws 27 = .ok (.irem, 1) := by decide +kernel
theorem dX11_draws_28 : decode cX11_draws 28 = .ok (.ireturn, 1) := by decide +kernel
theorem dX11_days_0 : decode cX11_days 0 = .ok (.iload_n 1, 1) := by decide +kernel
theorem dX11_days_1 : decode cX11_days 1 = .ok (.iconst 0, 1) := by decide +kernel
theorem dX11_days_2 : decode cX11_days 2 = .ok (.ldc 169, 2) := by decide +kernel
theorem dX11_days_4 : decode cX11_days 4 = .ok (.invokestatic 18, 3) := by decide +kernel
theorem dX11_days_7 : decode cX11_days 7 = .ok (.ifCond .eq 13, 3) := by decide +kernel
theorem dX11_days_10 : decode cX11_days 10 = .ok (.iload_n 2, 1) := by decide +kernel
theorem dX11_days_11 : decode cX11_days 11 = .ok (.iconst 1, 1) := by decide +kernel
theorem dX11_days_12 : decode cX11_days 12 = .ok (.bipush 60, 2) := by decide +kernel
theorem dX11_days_14 : decode cX11_days 14 = .ok (.invokestatic 18, 3) := by decide +kernel
theorem dX11_days_17 : decode cX11_days 17 = .ok (.ifCond .ne 9, 3) := by decide +kernel
theorem dX11_days_20 : decode cX11_days 20 = .ok (.aload_n 0, 1) := by decide +kernel
theorem dX11_days_21 : decode cX11_days 21 = .ok (.iconst (-1), 1) := by decide +kernel
theorem dX11_days_22 : decode cX11_days 22 = .ok (.invokevirtual 106, 3) := by decide +kernel
theorem dX11_days_25 : decode cX11_days 25 = .ok (.ireturn, 1) := by decide +kernel
theorem dX11_days_26 : decode cX11_days 26 = .ok (.aload_n 0, 1) := by decide +kernel
theorem dX11_days_27 : decode cX11_days 27 = .ok (.invokevirtual 112, 3) := by decide +kernel
theorem dX11_days_30 : decode cX11_days 30 = .ok (.ifCond .ne 10, 3) := by decide +kernel
theorem dX11_days_33 : decode cX11_days 33 = .ok (.aload_n 0, 1) := by decide +kernel
theorem dX11_days_34 : decode cX11_days 34 = .ok (.bipush (-3), 2) := by decide +kernel
theorem dX11_days_36 : decode cX11_days 36 = .ok (.invokevirtual 106, 3) := by decide +kernel
theorem dX11_days_39 : decode cX11_days 39 = .ok (.ireturn, 1) := by decide +kernel
theorem dX11_days_40 : decode cX11_days 40 = .ok (.aload_n 0, 1) := by decide +kernel
theorem dX11_days_41 : decode cX11_days 41 = .ok (.iload_n 1, 1) := by decide +kernel
theorem dX11_days_42 : decode cX11_days 42 = .ok (.putfield 467, 3) := by decide +kernel
theorem dX11_days_45 : decode cX11_days 45 = .ok (.aload_n 0, 1) := by decide +kernel
theorem dX11_days_46 : decode cX11_days 46 = .ok (.aload_n 0, 1) := by decide +kernel
theorem dX11_days_47 : decode cX11_days 47 = .ok (.invokevirtual 112, 3) := by decide +kernel
theorem dX11_days_50 : decode cX11_days 50 = .ok (.putfield 103, 3) := by decide +kernel
theorem dX11_days_53 : decode cX11_days 53 = .ok (.aload_n 0, 1) := by decide +kernel
theorem dX11_days_54 : decode cX11_days 54 = .ok (.iconst 0, 1) := by decide +kernel
theorem dX11_days_55 : decode cX11_days 55 = .ok (.invokevirtual 428, 3) := by decide +kernel
theorem dX11_days_58 : decode cX11_days 58 = .ok (.iconst 0, 1) := by decide +kernel
theorem dX11_days_59 : decode cX11_days 59 = .ok (.istore_n 3, 1) := by decide +kernel
theorem dX11_days_60 : decode cX11_days 60 = .ok (.iconst 0, 1) := by decide +kernel
theorem dX11_days_61 : decode cX11_days 61 = .ok (.istore 4, 2) := by decide +kernel
theorem dX11_days_63 : decode cX11_days 63 = .ok (.iload 4, 2) := by decide +kernel
theorem dX11_days_65 : decode cX11_days 65 = .ok (.iload_n 2, 1) := by decide +kernel
theorem dX11_days_66 : decode cX11_days 66 = .ok (.if_icmp .ge 145, 3) := by decide +kernel
theorem dX11_days_69 : decode cX11_days 69 = .ok (.aload_n 0, 1) := by decide +kernel
theorem dX11_days_70 : decode cX11_days 70 = .ok (.getfield 28, 3) := by decide +kernel
theorem dX11_days_73 : decode cX11_days 73 = .ok (.bipush 18, 2) := by decide +kernel
theorem dX11_days_75 : decode cX11_days 75 = .ok (.iaload, 1) := by decide +kernel
theorem dX11_days_76 : decode cX11_days 76 = .ok (.sipush 999, 3) := by decide +kernel
theorem dX11_days_79 : decode cX11_days 79 = .ok (.if_icmp .ge 132, 3) := by decide +kernel
theorem dX11_days_82 : decode cX11_days 82 = .ok (.aload_n 0, 1) := by decide +kernel
theorem dX11_days_83 : decode cX11_days 83 = .ok (.aload_n 0, 1) := by decide +kernel
theorem dX11_days_84 : decode cX11_days 84 = .ok (.invokevirtual 112, 3) := by decide +kernel
theorem dX11_days_87 : decode cX11_days 87 = .ok (.invokevirtual 474, 3) := by decide +kernel
theorem dX11_days_90 : decode cX11_days 90 = .ok (.istore 5, 2) := by decide +kernel
theorem dX11_days_92 : decode cX11_days 92 = .ok (.aload_n 0, 1) := by decide +kernel
theorem dX11_days_93 : decode cX11_days 93 = .ok (.bipush 12, 2) := by decide +kernel
theorem dX11_days_95 : decode cX11_days 95 = .ok (.invokevirtual 474, 3) := by decide +kernel
theorem dX11_days_98 : decode cX11_days 98 = .ok (.istore 6, 2) := by decide +kernel
theorem dX11_days_100 : decode cX11_days 100 = .ok (.aload_n 0, 1) := by decide +kernel
theorem dX11_days_101 : decode cX11_days 101 = .ok (.iconst 3, 1) := by decide +kernel
theorem dX11_days_102 : decode cX11_days 102 = .ok (.invokevirtual 474, 3) := by decide +kernel
theorem dX11_days_105 : decode cX11_days 105 = .ok (.istore 7, 2) := by decide +kernel
theorem dX11_days_107 : decode cX11_days 107 = .ok (.iload 7, 2) := by decide +kernel
theorem dX11_days_109 : decode cX11_days 109 = .ok (.ifCond .ne 22, 3) := by decide +kernel
theorem dX11_days_112 : decode cX11_days 112 = .ok (.aload_n 0, 1) := by decide +kernel
theorem dX11_days_113 : decode cX11_days 113 = .ok (.iload 5, 2) := by decide +kernel
theorem dX11_days_115 : decode cX11_days 115 = .ok (.iload 6, 2) := by decide +kernel
theorem dX11_days_117 : decode cX11_days 117 = .ok (.invokevirtual 353, 3) := by decide +kernel
theorem dX11_days_120 : decode cX11_days 120 = .ok (.ifCond .eq 11, 3) := by decide +kernel
theorem dX11_days_123 : decode cX11_days 123 = .ok (.aload_n 0, 1) := by decide +kernel
theorem dX11_days_124 : decode cX11_days 124 = .ok (.iload 5, 2) := by decide +kernel
theorem dX11_days_126 : decode cX11_days 126 = .ok (.iload 6, 2) := by decide +kernel
theorem dX11_days_128 : decode cX11_days 128 = .ok (.invokevirtual 350, 3) := by decide +kernel
theorem dX11_days_131 : decode cX11_days 131 = .ok (.iload 7, 2) := by decide +kernel
theorem dX11_days_133 : decode cX11_days 133 = .ok (.iconst 1, 1) := by decide +kernel
theorem dX11_days_134 : decode cX11_days 134 = .ok (.if_icmp .ne 36, 3) := by decide +kernel
theorem dX11_days_137 : decode cX11_days 137 = .ok (.aload_n 0, 1) := by decide +kernel
theorem dX11_days_138 : decode cX11_days 138 = .ok (.getfield 28, 3) := by decide +kernel
theorem dX11_days_141 : decode cX11_days 141 = .ok (.bipush 6, 2) := by decide +kernel
theorem dX11_days_143 : decode cX11_days 143 = .ok (.iload 5, 2) := by decide +kernel
theorem dX11_days_145 : decode cX11_days 145 = .ok (.iadd, 1) := by decide +kernel
theorem dX11_days_146 : decode cX11_days 146 = .ok (.aload_n 0, 1) := by decide +kernel
theorem dX11_days_147 : decode cX11_days 147 = .ok (.getfield 28, 3) := by decide +kernel
theorem dX11_days_150 : decode cX11_days 150 = .ok (.bipush 6, 2) := by decide +kernel
theorem dX11_days_152 : decode cX11_days 152 = .ok (.iload 5, 2) := by decide +kernel
theorem dX11_days_154 : decode cX11_days 154 = .ok (.iadd, 1) := by decide +kernel
theorem dX11_days_155 : decode cX11_days 155 = .ok (.iaload, 1) := by decide +kernel
theorem dX11_days_156 : decode cX11_days 156 = .ok (.iconst 1, 1) := by decide +kernel
theorem dX11_days_157 : decode cX11_days 157 = .ok (.iadd, 1) := by decide +kernel
theorem dX11_days_158 : decode cX11_days 158 = .ok (.aload_n 0, 1) := by decide +kernel
theorem dX11_days_159 : decode cX11_days 159 = .ok (.getfield 28, 3) := by decide +kernel
theorem dX11_days_162 : decode cX11_days 162 = .ok (.bipush 19, 2) := by decide +kernel
theorem dX11_days_164 : decode cX11_days 164 = .ok (.iload 5, 2) := by decide +kernel
theorem dX11_days_166 : decode cX11_days 166 = .ok (.iadd, 1) := by decide +kernel
theorem dX11_days_167 : decode cX11_days 167 = .ok (.iaload, 1) := by decide +kernel
theorem dX11_days_168 : decode cX11_days 168 = .ok (.irem, 1) := by decide +kernel
theorem dX11_days_169 : decode cX11_days 169 = .ok (.iastore, 1) := by decide +kernel
theorem dX11_days_170 : decode cX11_days 170 = .ok (.iload 7, 2) := by decide +kernel
theorem dX11_days_172 : decode cX11_days 172 = .ok (.iconst 2, 1) := by decide +kernel
theorem dX11_days_173 : decode cX11_days 173 = .ok (.if_icmp .ne 25, 3) := by decide +kernel
theorem dX11_days_176 : decode cX11_days 176 = .ok (.aload_n 0, 1) := by decide +kernel
theorem dX11_days_177 : decode cX11_days 177 = .ok (.getfield 28, 3) := by decide +kernel
theorem dX11_days_180 : decode cX11_days 180 = .ok (.bipush 12, 2) := by decide +kernel
theorem dX11_days_182 : decode cX11_days 182 = .ok (.iload 5, 2) := by decide +kernel
theorem dX11_days_184 : decode cX11_days 184 = .ok (.iadd, 1) := by decide +kernel
theorem dX11_days_185 : decode cX11_days 185 = .ok (.iconst 1, 1) := by decide +kernel
theorem dX11_days_186 : decode cX11_days 186 = .ok (.aload_n 0, 1) := by decide +kernel
theorem dX11_days_187 : decode cX11_days 187 = .ok (.getfield 28, 3) := by decide +kernel
theorem dX11_days_190 : decode cX11_days 190 = .ok (.bipush 12, 2) := by decide +kernel
theorem dX11_days_192 : decode cX11_days 192 = .ok (.iload 5, 2) := by decide +kernel
theorem dX11_days_194 : decode cX11_days 194 = .ok (.iadd, 1) := by decide +kernel
theorem dX11_days_195 : decode cX11_days 195 = .ok (.iaload, 1) := by decide +kernel
theorem dX11_days_196 : decode cX11_days 196 = .ok (.isub, 1) := by decide +kernel
theorem dX11_days_197 : decode cX11_days 197 = .ok (.iastore, 1) := by decide +kernel
theorem dX11_days_198 : decode cX11_days 198 = .ok (.iload_n 3, 1) := by decide +kernel
theorem dX11_days_199 : decode cX11_days 199 = .ok (.aload_n 0, 1) := by decide +kernel
theorem dX11_days_200 : decode cX11_days 200 = .ok (.invokevirtual 359, 3) := by decide +kernel
theorem dX11_days_203 : decode cX11_days 203 = .ok (.iadd, 1) := by decide +kernel
theorem dX11_days_204 : decode cX11_days 204 = .ok (.istore_n 3, 1) := by decide +kernel
theorem dX11_days_205 : decode cX11_days 205 = .ok (.iinc 4 1, 3) := by decide +kernel
theorem dX11_days_208 : decode cX11_days 208 = .ok (.goto (-145), 3) := by decide +kernel
theorem dX11_days_211 : decode cX11_days 211 = .ok (.iconst 0, 1) := by decide +kernel
theorem dX11_days_212 : decode cX11_days 212 = .ok (.istore 4, 2) := by decide +kernel
theorem dX11_days_214 : decode cX11_days 214 = .ok (.iload 4, 2) := by decide +kernel
theorem dX11_days_216 : decode cX11_days 216 = .ok (.bipush 19, 2) := by decide +kernel
theorem dX11_days_218 : decode cX11_days 218 = .ok (.if_icmp .ge 23, 3) := by decide +kernel
theorem dX11_days_221 : decode cX11_days 221 = .ok (.aload_n 0, 1) := by decide +kernel
theorem dX11_days_222 : decode cX11_days 222 = .ok (.getfield 100, 3) := by decide +kernel
theorem dX11_days_225 : decode cX11_days 225 = .ok (.iload 4, 2) := by decide +kernel
theorem dX11_days_227 : decode cX11_days 227 = .ok (.aload_n 0, 1) := by decide +kernel
theorem dX11_days_228 : decode cX11_days 228 = .ok (.getfield 28, 3) := by decide +kernel
theorem dX11_days_231 : decode cX11_days 231 = .ok (.iload 4, 2) := by decide +kernel
theorem dX11_days_233 : decode cX11_days 233 = .ok (.iaload, 1) := by decide +kernel
theorem dX11_days_234 : decode cX11_days 234 = .ok (.iastore, 1) := by decide +kernel
theorem dX11_days_235 : decode cX11_days 235 = .ok (.iinc 4 1, 3) := by decide +kernel
theorem dX11_days_238 : decode cX11_days 238 = .ok (.goto (-24), 3) := by decide +kernel
theorem dX11_days_241 : decode cX11_days 241 = .ok (.aload_n 0, 1) := by decide +kernel
theorem dX11_days_242 : decode cX11_days 242 = .ok (.iconst 0, 1) := by decide +kernel
theorem dX11_days_243 : decode cX11_days 243 = .ok (.invokevirtual 437, 3) := by decide +kernel
theorem dX11_days_246 : decode cX11_days 246 = .ok (.aload_n 0, 1) := by decide +kernel
theorem dX11_days_247 : decode cX11_days 247 = .ok (.iload_n 3, 1) := by decide +kernel
theorem dX11_days_248 : decode cX11_days 248 = .ok (.invokevirtual 14, 3) := by decide +kernel
theorem dX11_days_251 : decode cX11_days 251 = .ok (.ireturn, 1) := by decide +kernel
theorem dX11_drawn_0 : decode cX11_drawn 0 = .ok (.iload_n 1, 1) := by decide +kernel
theorem dX11_drawn_1 : decode cX11_drawn 1 = .ok (.iconst 0, 1) := by decide +kernel
theorem dX11_drawn_2 : decode cX11_drawn 2 = .ok (.aload_n 0, 1) := by decide +kernel
theorem dX11_drawn_3 : decode cX11_drawn 3 = .ok (.getfield 103, 3) := by decide +kernel
theorem dX11_drawn_6 : decode cX11_drawn 6 = .ok (.iconst 1, 1) := by decide +kernel
theorem dX11_drawn_7 : decode cX11_drawn 7 = .ok (.isub, 1) := by decide +kernel
theorem dX11_drawn_8 : decode cX11_drawn 8 = .ok (.invokestatic 18, 3) := by decide +kernel
theorem dX11_drawn_11 : decode cX11_drawn 11 = .ok (.ifCond .eq 12, 3) := by decide +kernel
theorem dX11_drawn_14 : decode cX11_drawn 14 = .ok (.iload_n 2, 1) := by decide +kernel
theorem dX11_drawn_15 : decode cX11_drawn 15 = .ok (.iconst 0, 1) := by decide +kernel
theorem dX11_drawn_16 : decode cX11_drawn 16 = .ok (.iconst 2, 1) := by decide +kernel
theorem dX11_drawn_17 : decode cX11_drawn 17 = .ok (.invokestatic 18, 3) := by decide +kernel
theorem dX11_drawn_20 : decode cX11_drawn 20 = .ok (.ifCond .ne 5, 3) := by decide +kernel
theorem dX11_drawn_23 : decode cX11_drawn 23 = .ok (.iconst (-1), 1) := by decide +kernel
theorem dX11_drawn_24 : decode cX11_drawn 24 = .ok (.ireturn, 1) := by decide +kernel
theorem dX11_drawn_25 : decode cX11_drawn 25 = .ok (.aload_n 0, 1) := by decide +kernel
theorem dX11_drawn_26 : decode cX11_drawn 26 = .ok (.getfield 100, 3) := by decide +kernel
theorem dX11_drawn_29 : decode cX11_drawn 29 = .ok (.iload_n 2, 1) := by decide +kernel
theorem dX11_drawn_30 : decode cX11_drawn 30 = .ok (.ifCond .ne 7, 3) := by decide +kernel
theorem dX11_drawn_33 : decode cX11_drawn 33 = .ok (.iconst 0, 1) := by decide +kernel
theorem dX11_drawn_34 : decode cX11_drawn 34 = .ok (.goto 15, 3) := by decide +kernel
theorem dX11_drawn_37 : decode cX11_drawn 37 = .ok (.iload_n 2, 1) := by decide +kernel
theorem dX11_drawn_38 : decode cX11_drawn 38 = .ok (.iconst 1, 1) := by decide +kernel
theorem dX11_drawn_39 : decode cX11_drawn 39 = .ok (.if_icmp .ne 8, 3) := by decide +kernel
theorem dX11_drawn_42 : decode cX11_drawn 42 = .ok (.bipush 6, 2) := by decide +kernel
theorem dX11_drawn_44 : decode cX11_drawn 44 = .ok (.goto 5, 3) := by decide +kernel
theorem dX11_drawn_47 : decode cX11_drawn 47 = .ok (.bipush 12, 2) := by decide +kernel
theorem dX11_drawn_49 : decode cX11_drawn 49 = .ok (.iload_n 1, 1) := by decide +kernel
theorem dX11_drawn_50 : decode cX11_drawn 50 = .ok (.iadd, 1) := by decide +kernel
theorem dX11_drawn_51 : decode cX11_drawn 51 = .ok (.iaload, 1) := by decide +kernel
theorem dX11_drawn_52 : decode cX11_drawn 52 = .ok (.ireturn, 1) := by decide +kernel
theorem dX11_strikingNow_0 : decode cX11_strikingNow 0 = .ok (.iconst 0, 1) := by decide +kernel
theorem dX11_strikingNow_1 : decode cX11_strikingNow 1 = .ok (.istore_n 1, 1) := by decide +kernel
theorem dX11_strikingNow_2 : decode cX11_strikingNow 2 = .ok (.iconst 0, 1) := by decide +kernel
theorem dX11_strikingNow_3 : decode cX11_strikingNow 3 = .ok (.istore_n 2, 1) := by decide +kernel
theorem dX11_strikingNow_4 : decode cX11_strikingNow 4 = .ok (.iload_n 2, 1) := by decide +kernel
theorem dX11_strikingNow_5 : decode cX11_strikingNow 5 = .ok (.aload_n 0, 1) := by decide +kernel
theorem dX11_strikingNow_6 : decode cX11_strikingNow 6 = .ok (.invokevirtual 112, 3) := by decide +kernel
theorem dX11_strikingNow_9 : decode cX11_strikingNow 9 = .ok (.if_icmp .ge 26, 3) := by decide +kernel
theorem dX11_strikingNow_12 : decode cX11_strikingNow 12 = .ok (.iload_n 1, 1) := by decide +kernel
theorem dX11_strikingNow_13 : decode cX11_strikingNow 13 = .ok (.aload_n 0, 1) := by decide +kernel
theorem dX11_strikingNow_14 : decode cX11_strikingNow 14 = .ok (.iload_n 2, 1) := by decide +kernel
theorem dX11_strikingNow_15 : decode cX11_strikingNow 15 = .ok (.iconst 0, 1) := by decide +kernel
theorem dX11_strikingNow_16 : decode cX11_strikingNow 16 = .ok (.invokevirtual 132, 3) := by decide +kernel
theorem dX11_strikingNow_19 : decode cX11_strikingNow 19 = .ok (.ifCond .eq 7, 3) := by decide +kernel
theorem dX11_strikingNow_22 : decode cX11_strikingNow 22 = .ok (.iconst 1, 1) := by decide +kernel
theorem dX11_strikingNow_23 : decode cX11_strikingNow 23 = .ok (.goto 4, 3) := by decide +kernel
theorem dX11_strikingNow_26 : decode cX11_strikingNow 26 = .ok (.iconst 0, 1) := by decide +kernel
theorem dX11_strikingNow_27 : decode cX11_strikingNow 27 = .ok (.iadd, 1) := by decide +kernel
theorem dX11_strikingNow_28 : decode cX11_strikingNow 28 = .ok (.istore_n 1, 1) := by decide +kernel
theorem dX11_strikingNow_29 : decode cX11_strikingNow 29 = .ok (.iinc 2 1, 3) := by decide +kernel
theorem dX11_strikingNow_32 : decode cX11_strikingNow 32 = .ok (.goto (-28), 3) := by decide +kernel
theorem dX11_strikingNow_35 : decode cX11_strikingNow 35 = .ok (.iload_n 1, 1) := by decide +kernel
theorem dX11_strikingNow_36 : decode cX11_strikingNow 36 = .ok (.ireturn, 1) := by decide +kernel
theorem dX11_count_0 : decode cX11_count 0 = .ok (.iload_n 1, 1) := by decide +kernel
theorem dX11_count_1 : decode cX11_count 1 = .ok (.tableswitch 166 0 15 #[79, 84, 89, 94, 102, 110, 115, 120, 120, 120, 130, 137, 145, 153, 153, 153], 79) := by decide +kernel
theorem dX11_count_80 : decode cX11_count 80 = .ok (.aload_n 0, 1) := by decide +kernel
theorem dX11_count_81 : decode cX11_count 81 = .ok (.invokevirtual 112, 3) := by decide +kernel
theorem dX11_count_84 : decode cX11_count 84 = .ok (.ireturn, 1) := by decide +kernel
theorem dX11_count_85 : decode cX11_count 85 = .ok (.aload_n 0, 1) := by decide +kernel
theorem dX11_count_86 : decode cX11_count 86 = .ok (.invokevirtual 477, 3) := by decide +kernel
theorem dX11_count_89 : decode cX11_count 89 = .ok (.ireturn, 1) := by decide +kernel
theorem dX11_count_90 : decode cX11_count 90 = .ok (.aload_n 0, 1) := by decide +kernel
theorem dX11_count_91 : decode cX11_count 91 = .ok (.invokevirtual 311, 3) := by decide +kernel
theorem dX11_count_94 : decode cX11_count 94 = .ok (.ireturn, 1) := by decide +kernel
theorem dX11_count_95 : decode cX11_count 95 = .ok (.aload_n 0, 1) := by decide +kernel
theorem dX11_count_96 : decode cX11_count 96 = .ok (.getfield 28, 3) := by decide +kernel
theorem dX11_count_99 : decode cX11_count 99 = .ok (.bipush 46, 2) := by decide +kernel
theorem dX11_count_101 : decode cX11_count 101 = .ok (.iaload, 1) := by decide +kernel
theorem dX11_count_102 : decode cX11_count 102 = .ok (.ireturn, 1) := by decide +kernel
theorem dX11_count_103 : decode cX11_count 103 = .ok (.aload_n 0, 1) := by decide +kernel
theorem dX11_count_104 : decode cX11_count 104 = .ok (.getfield 28, 3) := by decide +kernel
theorem dX11_count_107 : decode cX11_count 107 = .ok (.bipush 47, 2) := by decide +kernel
theorem dX11_count_109 : decode cX11_count 109 = .ok (.iaload, 1) := by decide +kernel
theorem dX11_count_110 : decode cX11_count 110 = .ok (.ireturn, 1) := by decide +kernel
theorem dX11_count_111 : decode cX11_count 111 = .ok (.aload_n 0, 1) := by decide +kernel
theorem dX11_count_112 : decode cX11_count 112 = .ok (.getfield 11, 3) := by decide +kernel
theorem dX11_count_115 : decode cX11_count 115 = .ok (.ireturn, 1) := by decide +kernel
theorem dX11_count_116 : decode cX11_count 116 = .ok (.aload_n 0, 1) := by decide +kernel
theorem dX11_count_117 : decode cX11_count 117 = .ok (.getfield 151, 3) := by decide +kernel
theorem dX11_count_120 : decode cX11_count 120 = .ok (.ireturn, 1) := by decide +kernel
theorem dX11_count_121 : decode cX11_count 121 = .ok (.aload_n 0, 1) := by decide +kernel
theorem dX11_count_122 : decode cX11_count 122 = .ok (.getfield 7, 3) := by decide +kernel
theorem dX11_count_125 : decode cX11_count 125 = .ok (.iload_n 1, 1) := by decide +kernel
theorem dX11_count_126 : decode cX11_count 126 = .ok (.bipush 6, 2) := by decide +kernel
theorem dX11_count_128 : decode cX11_count 128 = .ok (.isub, 1) := by decide +kernel
theorem dX11_count_129 : decode cX11_count 129 = .ok (.iaload, 1) := by decide +kernel
theorem dX11_count_130 : decode cX11_count 130 = .ok (.ireturn, 1) := by decide +kernel
theorem dX11_count_131 : decode cX11_count 131 = .ok (.aload_n 0, 1) := by decide +kernel
theorem dX11_count_132 : decode cX11_count 132 = .ok (.getfield 7, 3) := by decide +kernel
theorem dX11_count_135 : decode cX11_count 135 = .ok (.iconst 5, 1) := by decide +kernel
theorem dX11_count_136 : decode cX11_count 136 = .ok (.iaload, 1) := by decide +kernel
theorem dX11_count_137 : decode cX11_count 137 = .ok (.ireturn, 1) := by decide +kernel
theorem dX11_count_138 : decode cX11_count 138 = .ok (.aload_n 0, 1) := by decide +kernel
theorem dX11_count_139 : decode cX11_count 139 = .ok (.getfield 7, 3) := by decide +kernel
theorem dX11_count_142 : decode cX11_count 142 = .ok (.bipush 6, 2) := by decide +kernel
theorem dX11_count_144 : decode cX11_count 144 = .ok (.iaload, 1) := by decide +kernel
theorem dX11_count_145 : decode cX11_count 145 = .ok (.ireturn, 1) := by decide +kernel
theorem dX11_count_146 : decode cX11_count 146 = .ok (.aload_n 0, 1) := by decide +kernel
theorem dX11_count_147 : decode cX11_count 147 = .ok (.getfield 28, 3) := by decide +kernel
theorem dX11_count_150 : decode cX11_count 150 = .ok (.bipush 48, 2) := by decide +kernel
theorem dX11_count_152 : decode cX11_count 152 = .ok (.iaload, 1) := by decide +kernel
theorem dX11_count_153 : decode cX11_count 153 = .ok (.ireturn, 1) := by decide +kernel
theorem dX11_count_154 : decode cX11_count 154 = .ok (.aload_n 0, 1) := by decide +kernel
theorem dX11_count_155 : decode cX11_count 155 = .ok (.getfield 28, 3) := by decide +kernel
theorem dX11_count_158 : decode cX11_count 158 = .ok (.iload_n 1, 1) := by decide +kernel
theorem dX11_count_159 : decode cX11_count 159 = .ok (.bipush 13, 2) := by decide +kernel
theorem dX11_count_161 : decode cX11_count 161 = .ok (.isub, 1) := by decide +kernel
theorem dX11_count_162 : decode cX11_count 162 = .ok (.invokestatic 148, 3) := by decide +kernel
theorem dX11_count_165 : decode cX11_count 165 = .ok (.iaload, 1) := by decide +kernel
theorem dX11_count_166 : decode cX11_count 166 = .ok (.ireturn, 1) := by decide +kernel
theorem dX11_count_167 : decode cX11_count 167 = .ok (.iconst (-1), 1) := by decide +kernel
theorem dX11_count_168 : decode cX11_count 168 = .ok (.ireturn, 1) := by decide +kernel
theorem dX11_status_0 : decode cX11_status 0 = .ok (.aload_n 0, 1) := by decide +kernel
theorem dX11_status_1 : decode cX11_status 1 = .ok (.getfield 3, 3) := by decide +kernel
theorem dX11_status_4 : decode cX11_status 4 = .ok (.ireturn, 1) := by decide +kernel
