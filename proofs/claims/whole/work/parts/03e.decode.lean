theorem dX11_readOrder_54 : decode cX11_readOrder 54 = .ok (.bipush 24, 2) := by decide +kernel
theorem dX11_readOrder_56 : decode cX11_readOrder 56 = .ok (.invokevirtual 193, 3) := by decide +kernel
theorem dX11_readOrder_59 : decode cX11_readOrder 59 = .ok (.aload_n 0, 1) := by decide +kernel
theorem dX11_readOrder_60 : decode cX11_readOrder 60 = .ok (.bipush 25, 2) := by decide +kernel
theorem dX11_readOrder_62 : decode cX11_readOrder 62 = .ok (.invokevirtual 180, 3) := by decide +kernel
theorem dX11_readOrder_65 : decode cX11_readOrder 65 = .ok (.ifCond .eq 10, 3) := by decide +kernel
theorem dX11_readOrder_68 : decode cX11_readOrder 68 = .ok (.aload_n 0, 1) := by decide +kernel
theorem dX11_readOrder_69 : decode cX11_readOrder 69 = .ok (.iconst 1, 1) := by decide +kernel
theorem dX11_readOrder_70 : decode cX11_readOrder 70 = .ok (.bipush 20, 2) := by decide +kernel
theorem dX11_readOrder_72 : decode cX11_readOrder 72 = .ok (.invokevirtual 202, 3) := by decide +kernel
theorem dX11_readOrder_75 : decode cX11_readOrder 75 = .ok (.aload_n 0, 1) := by decide +kernel
theorem dX11_readOrder_76 : decode cX11_readOrder 76 = .ok (.iconst 4, 1) := by decide +kernel
theorem dX11_readOrder_77 : decode cX11_readOrder 77 = .ok (.invokevirtual 180, 3) := by decide +kernel
theorem dX11_readOrder_80 : decode cX11_readOrder 80 = .ok (.ifCond .eq 8, 3) := by decide +kernel
theorem dX11_readOrder_83 : decode cX11_readOrder 83 = .ok (.aload_n 0, 1) := by decide +kernel
theorem dX11_readOrder_84 : decode cX11_readOrder 84 = .ok (.iconst 0, 1) := by decide +kernel
theorem dX11_readOrder_85 : decode cX11_readOrder 85 = .ok (.invokevirtual 196, 3) := by decide +kernel
theorem dX11_readOrder_88 : decode cX11_readOrder 88 = .ok (.return_, 1) := by decide +kernel
theorem dX11_readOne_0 : decode cX11_readOne 0 = .ok (.aload_n 0, 1) := by decide +kernel
theorem dX11_readOne_1 : decode cX11_readOne 1 = .ok (.getfield 206, 3) := by decide +kernel
theorem dX11_readOne_4 : decode cX11_readOne 4 = .ok (.ifCond .eq 10, 3) := by decide +kernel
theorem dX11_readOne_7 : decode cX11_readOne 7 = .ok (.aload_n 0, 1) := by decide +kernel
theorem dX11_readOne_8 : decode cX11_readOne 8 = .ok (.invokevirtual 210, 3) := by decide +kernel
theorem dX11_readOne_11 : decode cX11_readOne 11 = .ok (.goto 7, 3) := by decide +kernel
theorem dX11_readOne_14 : decode cX11_readOne 14 = .ok (.aload_n 0, 1) := by decide +kernel
theorem dX11_readOne_15 : decode cX11_readOne 15 = .ok (.invokevirtual 213, 3) := by decide +kernel
theorem dX11_readOne_18 : decode cX11_readOne 18 = .ok (.return_, 1) := by decide +kernel
theorem dX11_readTest_0 : decode cX11_readTest 0 = .ok (.aload_n 0, 1) := by decide +kernel
theorem dX11_readTest_1 : decode cX11_readTest 1 = .ok (.iload_n 1, 1) := by decide +kernel
theorem dX11_readTest_2 : decode cX11_readTest 2 = .ok (.invokevirtual 216, 3) := by decide +kernel
theorem dX11_readTest_5 : decode cX11_readTest 5 = .ok (.aload_n 0, 1) := by decide +kernel
theorem dX11_readTest_6 : decode cX11_readTest 6 = .ok (.iconst 5, 1) := by decide +kernel
theorem dX11_readTest_7 : decode cX11_readTest 7 = .ok (.invokevirtual 180, 3) := by decide +kernel
theorem dX11_readTest_10 : decode cX11_readTest 10 = .ok (.ifCond .eq 11, 3) := by decide +kernel
theorem dX11_readTest_13 : decode cX11_readTest 13 = .ok (.aload_n 0, 1) := by decide +kernel
theorem dX11_readTest_14 : decode cX11_readTest 14 = .ok (.iload_n 1, 1) := by decide +kernel
theorem dX11_readTest_15 : decode cX11_readTest 15 = .ok (.invokevirtual 216, 3) := by decide +kernel
theorem dX11_readTest_18 : decode cX11_readTest 18 = .ok (.goto (-13), 3) := by decide +kernel
theorem dX11_readTest_21 : decode cX11_readTest 21 = .ok (.return_, 1) := by decide +kernel
theorem dX11_readBoth_0 : decode cX11_readBoth 0 = .ok (.aload_n 0, 1) := by decide +kernel
theorem dX11_readBoth_1 : decode cX11_readBoth 1 = .ok (.iload_n 1, 1) := by decide +kernel
theorem dX11_readBoth_2 : decode cX11_readBoth 2 = .ok (.invokevirtual 219, 3) := by decide +kernel
theorem dX11_readBoth_5 : decode cX11_readBoth 5 = .ok (.aload_n 0, 1) := by decide +kernel
theorem dX11_readBoth_6 : decode cX11_readBoth 6 = .ok (.bipush 6, 2) := by decide +kernel
theorem dX11_readBoth_8 : decode cX11_readBoth 8 = .ok (.invokevirtual 180, 3) := by decide +kernel
theorem dX11_readBoth_11 : decode cX11_readBoth 11 = .ok (.ifCond .eq 11, 3) := by decide +kernel
theorem dX11_readBoth_14 : decode cX11_readBoth 14 = .ok (.aload_n 0, 1) := by decide +kernel
theorem dX11_readBoth_15 : decode cX11_readBoth 15 = .ok (.iload_n 1, 1) := by decide +kernel
theorem dX11_readBoth_16 : decode cX11_readBoth 16 = .ok (.invokevirtual 219, 3) := by decide +kernel
theorem dX11_readBoth_19 : decode cX11_readBoth 19 = .ok (.goto (-14), 3) := by decide +kernel
theorem dX11_readBoth_22 : decode cX11_readBoth 22 = .ok (.return_, 1) := by decide +kernel
theorem dX11_readPlain_0 : decode cX11_readPlain 0 = .ok (.iconst 1, 1) := by decide +kernel
theorem dX11_readPlain_1 : decode cX11_readPlain 1 = .ok (.istore_n 2, 1) := by decide +kernel
theorem dX11_readPlain_2 : decode cX11_readPlain 2 = .ok (.iload_n 2, 1) := by decide +kernel
theorem dX11_readPlain_3 : decode cX11_readPlain 3 = .ok (.ifCond .eq 13, 3) := by decide +kernel
theorem dX11_readPlain_6 : decode cX11_readPlain 6 = .ok (.aload_n 0, 1) := by decide +kernel
theorem dX11_readPlain_7 : decode cX11_readPlain 7 = .ok (.bipush 7, 2) := by decide +kernel
theorem dX11_readPlain_9 : decode cX11_readPlain 9 = .ok (.invokevirtual 180, 3) := by decide +kernel
theorem dX11_readPlain_12 : decode cX11_readPlain 12 = .ok (.istore_n 2, 1) := by decide +kernel
theorem dX11_readPlain_13 : decode cX11_readPlain 13 = .ok (.goto (-11), 3) := by decide +kernel
theorem dX11_readPlain_16 : decode cX11_readPlain 16 = .ok (.aload_n 0, 1) := by decide +kernel
theorem dX11_readPlain_17 : decode cX11_readPlain 17 = .ok (.invokevirtual 173, 3) := by decide +kernel
theorem dX11_readPlain_20 : decode cX11_readPlain 20 = .ok (.ifCond .ne 4, 3) := by decide +kernel
theorem dX11_readPlain_23 : decode cX11_readPlain 23 = .ok (.return_, 1) := by decide +kernel
theorem dX11_readPlain_24 : decode cX11_readPlain 24 = .ok (.aload_n 0, 1) := by decide +kernel
theorem dX11_readPlain_25 : decode cX11_readPlain 25 = .ok (.getfield 54, 3) := by decide +kernel
theorem dX11_readPlain_28 : decode cX11_readPlain 28 = .ok (.aload_n 0, 1) := by decide +kernel
theorem dX11_readPlain_29 : decode cX11_readPlain 29 = .ok (.getfield 177, 3) := by decide +kernel
theorem dX11_readPlain_32 : decode cX11_readPlain 32 = .ok (.iaload, 1) := by decide +kernel
theorem dX11_readPlain_33 : decode cX11_readPlain 33 = .ok (.istore_n 3, 1) := by decide +kernel
theorem dX11_readPlain_34 : decode cX11_readPlain 34 = .ok (.iload_n 3, 1) := by decide +kernel
theorem dX11_readPlain_35 : decode cX11_readPlain 35 = .ok (.bipush 40, 2) := by decide +kernel
theorem dX11_readPlain_37 : decode cX11_readPlain 37 = .ok (.invokestatic 222, 3) := by decide +kernel
theorem dX11_readPlain_40 : decode cX11_readPlain 40 = .ok (.if_icmp .ne 50, 3) := by decide +kernel
theorem dX11_readPlain_43 : decode cX11_readPlain 43 = .ok (.iload_n 1, 1) := by decide +kernel
theorem dX11_readPlain_44 : decode cX11_readPlain 44 = .ok (.bipush 8, 2) := by decide +kernel
theorem dX11_readPlain_46 : decode cX11_readPlain 46 = .ok (.if_icmp .ne 7, 3) := by decide +kernel
theorem dX11_readPlain_49 : decode cX11_readPlain 49 = .ok (.aload_n 0, 1) := by decide +kernel
theorem dX11_readPlain_50 : decode cX11_readPlain 50 = .ok (.invokevirtual 183, 3) := by decide +kernel
theorem dX11_readPlain_53 : decode cX11_readPlain 53 = .ok (.aload_n 0, 1) := by decide +kernel
theorem dX11_readPlain_54 : decode cX11_readPlain 54 = .ok (.invokevirtual 173, 3) := by decide +kernel
theorem dX11_readPlain_57 : decode cX11_readPlain 57 = .ok (.ifCond .ne 4, 3) := by decide +kernel
theorem dX11_readPlain_60 : decode cX11_readPlain 60 = .ok (.return_, 1) := by decide +kernel
theorem dX11_readPlain_61 : decode cX11_readPlain 61 = .ok (.aload_n 0, 1) := by decide +kernel
theorem dX11_readPlain_62 : decode cX11_readPlain 62 = .ok (.dup, 1) := by decide +kernel
theorem dX11_readPlain_63 : decode cX11_readPlain 63 = .ok (.getfield 177, 3) := by decide +kernel
theorem dX11_readPlain_66 : decode cX11_readPlain 66 = .ok (.iconst 1, 1) := by decide +kernel
theorem dX11_readPlain_67 : decode cX11_readPlain 67 = .ok (.iadd, 1) := by decide +kernel
theorem dX11_readPlain_68 : decode cX11_readPlain 68 = .ok (.putfield 177, 3) := by decide +kernel
theorem dX11_readPlain_71 : decode cX11_readPlain 71 = .ok (.aload_n 0, 1) := by decide +kernel
theorem dX11_readPlain_72 : decode cX11_readPlain 72 = .ok (.iload_n 1, 1) := by decide +kernel
theorem dX11_readPlain_73 : decode cX11_readPlain 73 = .ok (.iconst 1, 1) := by decide +kernel
theorem dX11_readPlain_74 : decode cX11_readPlain 74 = .ok (.iadd, 1) := by decide +kernel
theorem dX11_readPlain_75 : decode cX11_readPlain 75 = .ok (.invokevirtual 196, 3) := by decide +kernel
theorem dX11_readPlain_78 : decode cX11_readPlain 78 = .ok (.aload_n 0, 1) := by decide +kernel
theorem dX11_readPlain_79 : decode cX11_readPlain 79 = .ok (.bipush 41, 2) := by decide +kernel
theorem dX11_readPlain_81 : decode cX11_readPlain 81 = .ok (.invokestatic 222, 3) := by decide +kernel
theorem dX11_readPlain_84 : decode cX11_readPlain 84 = .ok (.invokevirtual 193, 3) := by decide +kernel
theorem dX11_readPlain_87 : decode cX11_readPlain 87 = .ok (.goto 46, 3) := by decide +kernel
theorem dX11_readPlain_90 : decode cX11_readPlain 90 = .ok (.aload_n 0, 1) := by decide +kernel
theorem dX11_readPlain_91 : decode cX11_readPlain 91 = .ok (.iload_n 1, 1) := by decide +kernel
theorem dX11_readPlain_92 : decode cX11_readPlain 92 = .ok (.invokevirtual 189, 3) := by decide +kernel
theorem dX11_readPlain_95 : decode cX11_readPlain 95 = .ok (.aload_n 0, 1) := by decide +kernel
theorem dX11_readPlain_96 : decode cX11_readPlain 96 = .ok (.bipush 60, 2) := by decide +kernel
theorem dX11_readPlain_98 : decode cX11_readPlain 98 = .ok (.invokestatic 222, 3) := by decide +kernel
theorem dX11_readPlain_101 : decode cX11_readPlain 101 = .ok (.invokevirtual 180, 3) := by decide +kernel
theorem dX11_readPlain_104 : decode cX11_readPlain 104 = .ok (.ifCond .ne 24, 3) := by decide +kernel
theorem dX11_readPlain_107 : decode cX11_readPlain 107 = .ok (.aload_n 0, 1) := by decide +kernel
theorem dX11_readPlain_108 : decode cX11_readPlain 108 = .ok (.bipush 62, 2) := by decide +kernel
theorem dX11_readPlain_110 : decode cX11_readPlain 110 = .ok (.invokestatic 222, 3) := by decide +kernel
theorem dX11_readPlain_113 : decode cX11_readPlain 113 = .ok (.invokevirtual 180, 3) := by decide +kernel
theorem dX11_readPlain_116 : decode cX11_readPlain 116 = .ok (.ifCond .ne 12, 3) := by decide +kernel
theorem dX11_readPlain_119 : decode cX11_readPlain 119 = .ok (.aload_n 0, 1) := by decide +kernel
theorem dX11_readPlain_120 : decode cX11_readPlain 120 = .ok (.bipush 61, 2) := by decide +kernel
theorem dX11_readPlain_122 : decode cX11_readPlain 122 = .ok (.invokestatic 222, 3) := by decide +kernel
theorem dX11_readPlain_125 : decode cX11_readPlain 125 = .ok (.invokevirtual 193, 3) := by decide +kernel
theorem dX11_readPlain_128 : decode cX11_readPlain 128 = .ok (.aload_n 0, 1) := by decide +kernel
theorem dX11_readPlain_129 : decode cX11_readPlain 129 = .ok (.iload_n 1, 1) := by decide +kernel
theorem dX11_readPlain_130 : decode cX11_readPlain 130 = .ok (.invokevirtual 189, 3) := by decide +kernel
theorem dX11_readPlain_133 : decode cX11_readPlain 133 = .ok (.return_, 1) := by decide +kernel
theorem dX11_readSum_0 : decode cX11_readSum 0 = .ok (.aload_n 0, 1) := by decide +kernel
theorem dX11_readSum_1 : decode cX11_readSum 1 = .ok (.iload_n 1, 1) := by decide +kernel
theorem dX11_readSum_2 : decode cX11_readSum 2 = .ok (.invokevirtual 226, 3) := by decide +kernel
theorem dX11_readSum_5 : decode cX11_readSum 5 = .ok (.aload_n 0, 1) := by decide +kernel
theorem dX11_readSum_6 : decode cX11_readSum 6 = .ok (.bipush 43, 2) := by decide +kernel
theorem dX11_readSum_8 : decode cX11_readSum 8 = .ok (.invokestatic 222, 3) := by decide +kernel
theorem dX11_readSum_11 : decode cX11_readSum 11 = .ok (.invokevirtual 180, 3) := by decide +kernel
theorem dX11_readSum_14 : decode cX11_readSum 14 = .ok (.ifCond .ne 15, 3) := by decide +kernel
theorem dX11_readSum_17 : decode cX11_readSum 17 = .ok (.aload_n 0, 1) := by decide +kernel
theorem dX11_readSum_18 : decode cX11_readSum 18 = .ok (.bipush 45, 2) := by decide +kernel
theorem dX11_readSum_20 : decode cX11_readSum 20 = .ok (.invokestatic 222, 3) := by decide +kernel
theorem dX11_readSum_23 : decode cX11_readSum 23 = .ok (.invokevirtual 180, 3) := by decide +kernel
theorem dX11_readSum_26 : decode cX11_readSum 26 = .ok (.ifCond .eq 11, 3) := by decide +kernel
theorem dX11_readSum_29 : decode cX11_readSum 29 = .ok (.aload_n 0, 1) := by decide +kernel
theorem dX11_readSum_30 : decode cX11_readSum 30 = .ok (.iload_n 1, 1) := by decide +kernel
theorem dX11_readSum_31 : decode cX11_readSum 31 = .ok (.invokevirtual 226, 3) := by decide +kernel
theorem dX11_readSum_34 : decode cX11_readSum 34 = .ok (.goto (-29), 3) := by decide +kernel
theorem dX11_readSum_37 : decode cX11_readSum 37 = .ok (.return_, 1) := by decide +kernel
theorem dX11_readTerm_0 : decode cX11_readTerm 0 = .ok (.aload_n 0, 1) := by decide +kernel
theorem dX11_readTerm_1 : decode cX11_readTerm 1 = .ok (.iload_n 1, 1) := by decide +kernel
theorem dX11_readTerm_2 : decode cX11_readTerm 2 = .ok (.invokevirtual 229, 3) := by decide +kernel
theorem dX11_readTerm_5 : decode cX11_readTerm 5 = .ok (.aload_n 0, 1) := by decide +kernel
theorem dX11_readTerm_6 : decode cX11_readTerm 6 = .ok (.bipush 42, 2) := by decide +kernel
theorem dX11_readTerm_8 : decode cX11_readTerm 8 = .ok (.invokestatic 222, 3) := by decide +kernel
theorem dX11_readTerm_11 : decode cX11_readTerm 11 = .ok (.invokevirtual 180, 3) := by decide +kernel
theorem dX11_readTerm_14 : decode cX11_readTerm 14 = .ok (.ifCond .ne 27, 3) := by decide +kernel
theorem dX11_readTerm_17 : decode cX11_readTerm 17 = .ok (.aload_n 0, 1) := by decide +kernel
theorem dX11_readTerm_18 : decode cX11_readTerm 18 = .ok (.bipush 47, 2) := by decide +kernel
theorem dX11_readTerm_20 : decode cX11_readTerm 20 = .ok (.invokestatic 222, 3) := by decide +kernel
theorem dX11_readTerm_23 : decode cX11_readTerm 23 = .ok (.invokevirtual 180, 3) := by decide +kernel
theorem dX11_readTerm_26 : decode cX11_readTerm 26 = .ok (.ifCond .ne 15, 3) := by decide +kernel
theorem dX11_readTerm_29 : decode cX11_readTerm 29 = .ok (.aload_n 0, 1) := by decide +kernel
theorem dX11_readTerm_30 : decode cX11_readTerm 30 = .ok (.bipush 37, 2) := by decide +kernel
theorem dX11_readTerm_32 : decode cX11_readTerm 32 = .ok (.invokestatic 222, 3) := by decide +kernel
theorem dX11_readTerm_35 : decode cX11_readTerm 35 = .ok (.invokevirtual 180, 3) := by decide +kernel
theorem dX11_readTerm_38 : decode cX11_readTerm 38 = .ok (.ifCond .eq 11, 3) := by decide +kernel
theorem dX11_readTerm_41 : decode cX11_readTerm 41 = .ok (.aload_n 0, 1) := by decide +kernel
theorem dX11_readTerm_42 : decode cX11_readTerm 42 = .ok (.iload_n 1, 1) := by decide +kernel
theorem dX11_readTerm_43 : decode cX11_readTerm 43 = .ok (.invokevirtual 229, 3) := by decide +kernel
theorem dX11_readTerm_46 : decode cX11_readTerm 46 = .ok (.goto (-41), 3) := by decide +kernel
theorem dX11_readTerm_49 : decode cX11_readTerm 49 = .ok (.return_, 1) := by decide +kernel
theorem dX11_readPart_0 : decode cX11_readPart 0 = .ok (.aload_n 0, 1) := by decide +kernel
theorem dX11_readPart_1 : decode cX11_readPart 1 = .ok (.invokevirtual 173, 3) := by decide +kernel
theorem dX11_readPart_4 : decode cX11_readPart 4 = .ok (.ifCond .ne 4, 3) := by decide +kernel
theorem dX11_readPart_7 : decode cX11_readPart 7 = .ok (.return_, 1) := by decide +kernel
theorem dX11_readPart_8 : decode cX11_readPart 8 = .ok (.aload_n 0, 1) := by decide +kernel
theorem dX11_readPart_9 : decode cX11_readPart 9 = .ok (.getfield 54, 3) := by decide +kernel
theorem dX11_readPart_12 : decode cX11_readPart 12 = .ok (.aload_n 0, 1) := by decide +kernel
theorem dX11_readPart_13 : decode cX11_readPart 13 = .ok (.getfield 177, 3) := by decide +kernel
theorem dX11_readPart_16 : decode cX11_readPart 16 = .ok (.iaload, 1) := by decide +kernel
theorem dX11_readPart_17 : decode cX11_readPart 17 = .ok (.istore_n 2, 1) := by decide +kernel
theorem dX11_readPart_18 : decode cX11_readPart 18 = .ok (.iload_n 2, 1) := by decide +kernel
theorem dX11_readPart_19 : decode cX11_readPart 19 = .ok (.bipush 91, 2) := by decide +kernel
theorem dX11_readPart_21 : decode cX11_readPart 21 = .ok (.invokestatic 222, 3) := by decide +kernel
theorem dX11_readPart_24 : decode cX11_readPart 24 = .ok (.if_icmp .ne 50, 3) := by decide +kernel
theorem dX11_readPart_27 : decode cX11_readPart 27 = .ok (.iload_n 1, 1) := by decide +kernel
theorem dX11_readPart_28 : decode cX11_readPart 28 = .ok (.bipush 8, 2) := by decide +kernel
theorem dX11_readPart_30 : decode cX11_readPart 30 = .ok (.if_icmp .ne 7, 3) := by decide +kernel
theorem dX11_readPart_33 : decode cX11_readPart 33 = .ok (.aload_n 0, 1) := by decide +kernel
theorem dX11_readPart_34 : decode cX11_readPart 34 = .ok (.invokevirtual 183, 3) := by decide +kernel
theorem dX11_readPart_37 : decode cX11_readPart 37 = .ok (.aload_n 0, 1) := by decide +kernel
theorem dX11_readPart_38 : decode cX11_readPart 38 = .ok (.invokevirtual 173, 3) := by decide +kernel
theorem dX11_readPart_41 : decode cX11_readPart 41 = .ok (.ifCond .ne 4, 3) := by decide +kernel
theorem dX11_readPart_44 : decode cX11_readPart 44 = .ok (.return_, 1) := by decide +kernel
theorem dX11_readPart_45 : decode cX11_readPart 45 = .ok (.aload_n 0, 1) := by decide +kernel
theorem dX11_readPart_46 : decode cX11_readPart 46 = .ok (.dup, 1) := by decide +kernel
theorem dX11_readPart_47 : decode cX11_readPart 47 = .ok (.getfield 177, 3) := by decide +kernel
theorem dX11_readPart_50 : decode cX11_readPart 50 = .ok (.iconst 1, 1) := by decide +kernel
theorem dX11_readPart_51 : decode cX11_readPart 51 = .ok (.iadd, 1) := by decide +kernel
theorem dX11_readPart_52 : decode cX11_readPart 52 = .ok (.putfield 177, 3) := by decide +kernel
theorem dX11_readPart_55 : decode cX11_readPart 55 = .ok (.aload_n 0, 1) := by decide +kernel
theorem dX11_readPart_56 : decode cX11_readPart 56 = .ok (.iload_n 1, 1) := by decide +kernel
theorem dX11_readPart_57 : decode cX11_readPart 57 = .ok (.iconst 1, 1) := by decide +kernel
theorem dX11_readPart_58 : decode cX11_readPart 58 = .ok (.iadd, 1) := by decide +kernel
theorem dX11_readPart_59 : decode cX11_readPart 59 = .ok (.invokevirtual 189, 3) := by decide +kernel
theorem dX11_readPart_62 : decode cX11_readPart 62 = .ok (.aload_n 0, 1) := by decide +kernel
theorem dX11_readPart_63 : decode cX11_readPart 63 = .ok (.bipush 93, 2) := by decide +kernel
theorem dX11_readPart_65 : decode cX11_readPart 65 = .ok (.invokestatic 222, 3) := by decide +kernel
theorem dX11_readPart_68 : decode cX11_readPart 68 = .ok (.invokevirtual 193, 3) := by decide +kernel
theorem dX11_readPart_71 : decode cX11_readPart 71 = .ok (.goto 76, 3) := by decide +kernel
theorem dX11_readPart_74 : decode cX11_readPart 74 = .ok (.iload_n 2, 1) := by decide +kernel
theorem dX11_readPart_75 : decode cX11_readPart 75 = .ok (.bipush 50, 2) := by decide +kernel
theorem dX11_readPart_77 : decode cX11_readPart 77 = .ok (.if_icmp .ne 18, 3) := by decide +kernel
theorem dX11_readPart_80 : decode cX11_readPart 80 = .ok (.aload_n 0, 1) := by decide +kernel
theorem dX11_readPart_81 : decode cX11_readPart 81 = .ok (.getfield 57, 3) := by decide +kernel
theorem dX11_readPart_84 : decode cX11_readPart 84 = .ok (.aload_n 0, 1) := by decide +kernel
theorem dX11_readPart_85 : decode cX11_readPart 85 = .ok (.getfield 177, 3) := by decide +kernel
theorem dX11_readPart_88 : decode cX11_readPart 88 = .ok (.iaload, 1) := by decide +kernel
theorem dX11_readPart_89 : decode cX11_readPart 89 = .ok (.sipush 1000, 3) := by decide +kernel
theorem dX11_readPart_92 : decode cX11_readPart 92 = .ok (.if_icmp .le 19, 3) := by decide +kernel
theorem dX11_readPart_95 : decode cX11_readPart 95 = .ok (.iload_n 2, 1) := by decide +kernel
theorem dX11_readPart_96 : decode cX11_readPart 96 = .ok (.aload_n 0, 1) := by decide +kernel
theorem dX11_readPart_97 : decode cX11_readPart 97 = .ok (.getfield 232, 3) := by decide +kernel
theorem dX11_readPart_100 : decode cX11_readPart 100 = .ok (.if_icmp .lt 43, 3) := by decide +kernel
theorem dX11_readPart_103 : decode cX11_readPart 103 = .ok (.iload_n 2, 1) := by decide +kernel
theorem dX11_readPart_104 : decode cX11_readPart 104 = .ok (.aload_n 0, 1) := by decide +kernel
theorem dX11_readPart_105 : decode cX11_readPart 105 = .ok (.getfield 235, 3) := by decide +kernel
theorem dX11_readPart_108 : decode cX11_readPart 108 = .ok (.if_icmp .gt 35, 3) := by decide +kernel
theorem dX11_readPart_111 : decode cX11_readPart 111 = .ok (.aload_n 0, 1) := by decide +kernel
theorem dX11_readPart_112 : decode cX11_readPart 112 = .ok (.invokevirtual 238, 3) := by decide +kernel
theorem dX11_readPart_115 : decode cX11_readPart 115 = .ok (.aload_n 0, 1) := by decide +kernel
theorem dX11_readPart_116 : decode cX11_readPart 116 = .ok (.getfield 206, 3) := by decide +kernel
theorem dX11_readPart_119 : decode cX11_readPart 119 = .ok (.ifCond .eq 28, 3) := by decide +kernel
theorem dX11_readPart_122 : decode cX11_readPart 122 = .ok (.iload_n 2, 1) := by decide +kernel
theorem dX11_readPart_123 : decode cX11_readPart 123 = .ok (.bipush 13, 2) := by decide +kernel
theorem dX11_readPart_125 : decode cX11_readPart 125 = .ok (.if_icmp .eq 9, 3) := by decide +kernel
theorem dX11_readPart_128 : decode cX11_readPart 128 = .ok (.iload_n 2, 1) := by decide +kernel
theorem dX11_readPart_129 : decode cX11_readPart 129 = .ok (.bipush 19, 2) := by decide +kernel
theorem dX11_readPart_131 : decode cX11_readPart 131 = .ok (.if_icmp .ne 16, 3) := by decide +kernel
theorem dX11_readPart_134 : decode cX11_readPart 134 = .ok (.aload_n 0, 1) := by decide +kernel
theorem dX11_readPart_135 : decode cX11_readPart 135 = .ok (.iconst 0, 1) := by decide +kernel
theorem dX11_readPart_136 : decode cX11_readPart 136 = .ok (.iconst 5, 1) := by decide +kernel
theorem dX11_readPart_137 : decode cX11_readPart 137 = .ok (.invokevirtual 202, 3) := by decide +kernel
theorem dX11_readPart_140 : decode cX11_readPart 140 = .ok (.goto 7, 3) := by decide +kernel
theorem dX11_readPart_143 : decode cX11_readPart 143 = .ok (.aload_n 0, 1) := by decide +kernel
theorem dX11_readPart_144 : decode cX11_readPart 144 = .ok (.invokevirtual 183, 3) := by decide +kernel
theorem dX11_readPart_147 : decode cX11_readPart 147 = .ok (.return_, 1) := by decide +kernel
theorem dX11_reads_0 : decode cX11_reads 0 = .ok (.aload_n 0, 1) := by decide +kernel
theorem dX11_reads_1 : decode cX11_reads 1 = .ok (.aload_n 0, 1) := by decide +kernel
theorem dX11_reads_2 : decode cX11_reads 2 = .ok (.getfield 151, 3) := by decide +kernel
theorem dX11_reads_5 : decode cX11_reads 5 = .ok (.invokevirtual 241, 3) := by decide +kernel
theorem dX11_reads_8 : decode cX11_reads 8 = .ok (.aload_n 0, 1) := by decide +kernel
theorem dX11_reads_9 : decode cX11_reads 9 = .ok (.iconst 0, 1) := by decide +kernel
theorem dX11_reads_10 : decode cX11_reads 10 = .ok (.putfield 151, 3) := by decide +kernel
theorem dX11_reads_13 : decode cX11_reads 13 = .ok (.aload_n 0, 1) := by decide +kernel
theorem dX11_reads_14 : decode cX11_reads 14 = .ok (.iconst 0, 1) := by decide +kernel
theorem dX11_reads_15 : decode cX11_reads 15 = .ok (.putfield 177, 3) := by decide +kernel
theorem dX11_reads_18 : decode cX11_reads 18 = .ok (.aload_n 0, 1) := by decide +kernel
theorem dX11_reads_19 : decode cX11_reads 19 = .ok (.iconst 0, 1) := by decide +kernel
theorem dX11_reads_20 : decode cX11_reads 20 = .ok (.putfield 186, 3) := by decide +kernel
theorem dX11_reads_23 : decode cX11_reads 23 = .ok (.aload_n 0, 1) := by decide +kernel
theorem dX11_reads_24 : decode cX11_reads 24 = .ok (.iconst (-1), 1) := by decide +kernel
theorem dX11_reads_25 : decode cX11_reads 25 = .ok (.putfield 170, 3) := by decide +kernel
theorem dX11_reads_28 : decode cX11_reads 28 = .ok (.aload_n 0, 1) := by decide +kernel
theorem dX11_reads_29 : decode cX11_reads 29 = .ok (.invokevirtual 244, 3) := by decide +kernel
theorem dX11_reads_32 : decode cX11_reads 32 = .ok (.iconst 1, 1) := by decide +kernel
theorem dX11_reads_33 : decode cX11_reads 33 = .ok (.istore_n 1, 1) := by decide +kernel
theorem dX11_reads_34 : decode cX11_reads 34 = .ok (.aload_n 0, 1) := by decide +kernel
theorem dX11_reads_35 : decode cX11_reads 35 = .ok (.bipush 59, 2) := by decide +kernel
theorem dX11_reads_37 : decode cX11_reads 37 = .ok (.invokestatic 222, 3) := by decide +kernel
theorem dX11_reads_40 : decode cX11_reads 40 = .ok (.invokevirtual 180, 3) := by decide +kernel
theorem dX11_reads_43 : decode cX11_reads 43 = .ok (.ifCond .eq 30, 3) := by decide +kernel
theorem dX11_reads_46 : decode cX11_reads 46 = .ok (.iload_n 1, 1) := by decide +kernel
theorem dX11_reads_47 : decode cX11_reads 47 = .ok (.bipush 12, 2) := by decide +kernel
theorem dX11_reads_49 : decode cX11_reads 49 = .ok (.if_icmp .ne 7, 3) := by decide +kernel
theorem dX11_reads_52 : decode cX11_reads 52 = .ok (.aload_n 0, 1) := by decide +kernel
theorem dX11_reads_53 : decode cX11_reads 53 = .ok (.invokevirtual 183, 3) := by decide +kernel
theorem dX11_reads_56 : decode cX11_reads 56 = .ok (.aload_n 0, 1) := by decide +kernel
theorem dX11_reads_57 : decode cX11_reads 57 = .ok (.invokevirtual 173, 3) := by decide +kernel
theorem dX11_reads_60 : decode cX11_reads 60 = .ok (.ifCond .eq 7, 3) := by decide +kernel
theorem dX11_reads_63 : decode cX11_reads 63 = .ok (.aload_n 0, 1) := by decide +kernel
theorem dX11_reads_64 : decode cX11_reads 64 = .ok (.invokevirtual 244, 3) := by decide +kernel
theorem dX11_reads_67 : decode cX11_reads 67 = .ok (.iinc 1 1, 3) := by decide +kernel
theorem dX11_reads_70 : decode cX11_reads 70 = .ok (.goto (-36), 3) := by decide +kernel
theorem dX11_reads_73 : decode cX11_reads 73 = .ok (.aload_n 0, 1) := by decide +kernel
theorem dX11_reads_74 : decode cX11_reads 74 = .ok (.invokevirtual 173, 3) := by decide +kernel
theorem dX11_reads_77 : decode cX11_reads 77 = .ok (.ifCond .eq 18, 3) := by decide +kernel
theorem dX11_reads_80 : decode cX11_reads 80 = .ok (.aload_n 0, 1) := by decide +kernel
theorem dX11_reads_81 : decode cX11_reads 81 = .ok (.getfield 177, 3) := by decide +kernel
theorem dX11_reads_84 : decode cX11_reads 84 = .ok (.aload_n 0, 1) := by decide +kernel
theorem dX11_reads_85 : decode cX11_reads 85 = .ok (.getfield 157, 3) := by decide +kernel
theorem dX11_reads_88 : decode cX11_reads 88 = .ok (.if_icmp .ge 7, 3) := by decide +kernel
theorem dX11_reads_91 : decode cX11_reads 91 = .ok (.aload_n 0, 1) := by decide +kernel
theorem dX11_reads_92 : decode cX11_reads 92 = .ok (.invokevirtual 183, 3) := by decide +kernel
theorem dX11_reads_95 : decode cX11_reads 95 = .ok (.aload_n 0, 1) := by decide +kernel
theorem dX11_reads_96 : decode cX11_reads 96 = .ok (.aload_n 0, 1) := by decide +kernel
theorem dX11_reads_97 : decode cX11_reads 97 = .ok (.getfield 170, 3) := by decide +kernel
theorem dX11_reads_100 : decode cX11_reads 100 = .ok (.putfield 51, 3) := by decide +kernel
theorem dX11_reads_103 : decode cX11_reads 103 = .ok (.aload_n 0, 1) := by decide +kernel
theorem dX11_reads_104 : decode cX11_reads 104 = .ok (.invokevirtual 173, 3) := by decide +kernel
theorem dX11_reads_107 : decode cX11_reads 107 = .ok (.ireturn, 1) := by decide +kernel
theorem dX11_readsAs_0 : decode cX11_readsAs 0 = .ok (.aload_n 0, 1) := by decide +kernel
theorem dX11_readsAs_1 : decode cX11_readsAs 1 = .ok (.iload_n 1, 1) := by decide +kernel
theorem dX11_readsAs_2 : decode cX11_readsAs 2 = .ok (.putfield 206, 3) := by decide +kernel
theorem dX11_readsAs_5 : decode cX11_readsAs 5 = .ok (.aload_n 0, 1) := by decide +kernel
theorem dX11_readsAs_6 : decode cX11_readsAs 6 = .ok (.iload_n 1, 1) := by decide +kernel
theorem dX11_readsAs_7 : decode cX11_readsAs 7 = .ok (.ifCond .eq 8, 3) := by decide +kernel
theorem dX11_readsAs_10 : decode cX11_readsAs 10 = .ok (.bipush 13, 2) := by decide +kernel
theorem dX11_readsAs_12 : decode cX11_readsAs 12 = .ok (.goto 5, 3) := by decide +kernel
theorem dX11_readsAs_15 : decode cX11_readsAs 15 = .ok (.bipush 8, 2) := by decide +kernel
theorem dX11_readsAs_17 : decode cX11_readsAs 17 = .ok (.putfield 232, 3) := by decide +kernel
theorem dX11_readsAs_20 : decode cX11_readsAs 20 = .ok (.aload_n 0, 1) := by decide +kernel
theorem dX11_readsAs_21 : decode cX11_readsAs 21 = .ok (.iload_n 1, 1) := by decide +kernel
theorem dX11_readsAs_22 : decode cX11_readsAs 22 = .ok (.ifCond .eq 8, 3) := by decide +kernel
theorem dX11_readsAs_25 : decode cX11_readsAs 25 = .ok (.bipush 19, 2) := by decide +kernel
theorem dX11_readsAs_27 : decode cX11_readsAs 27 = .ok (.goto 5, 3) := by decide +kernel
theorem dX11_readsAs_30 : decode cX11_readsAs 30 = .ok (.bipush 14, 2) := by decide +kernel
theorem dX11_readsAs_32 : decode cX11_readsAs 32 = .ok (.putfield 235, 3) := by decide +kernel
theorem dX11_readsAs_35 : decode cX11_readsAs 35 = .ok (.aload_n 0, 1) := by decide +kernel
theorem dX11_readsAs_36 : decode cX11_readsAs 36 = .ok (.invokevirtual 247, 3) := by decide +kernel
theorem dX11_readsAs_39 : decode cX11_readsAs 39 = .ok (.ireturn, 1) := by decide +kernel
theorem dX11_lays_0 : decode cX11_lays 0 = .ok (.aload_n 0, 1) := by decide +kernel
theorem dX11_lays_1 : decode cX11_lays 1 = .ok (.getfield 28, 3) := by decide +kernel
theorem dX11_lays_4 : decode cX11_lays 4 = .ok (.bipush 49, 2) := by decide +kernel
theorem dX11_lays_6 : decode cX11_lays 6 = .ok (.iload_n 1, 1) := by decide +kernel
theorem dX11_lays_7 : decode cX11_lays 7 = .ok (.iadd, 1) := by decide +kernel
theorem dX11_lays_8 : decode cX11_lays 8 = .ok (.aload_n 0, 1) := by decide +kernel
theorem dX11_lays_9 : decode cX11_lays 9 = .ok (.getfield 157, 3) := by decide +kernel
theorem dX11_lays_12 : decode cX11_lays 12 = .ok (.iastore, 1) := by decide +kernel
theorem dX11_lays_13 : decode cX11_lays 13 = .ok (.iconst 0, 1) := by decide +kernel
theorem dX11_lays_14 : decode cX11_lays 14 = .ok (.istore_n 2, 1) := by decide +kernel
theorem dX11_lays_15 : decode cX11_lays 15 = .ok (.iload_n 2, 1) := by decide +kernel
theorem dX11_lays_16 : decode cX11_lays 16 = .ok (.aload_n 0, 1) := by decide +kernel
theorem dX11_lays_17 : decode cX11_lays 17 = .ok (.getfield 157, 3) := by decide +kernel
theorem dX11_lays_20 : decode cX11_lays 20 = .ok (.if_icmp .ge 52, 3) := by decide +kernel
theorem dX11_lays_23 : decode cX11_lays 23 = .ok (.aload_n 0, 1) := by decide +kernel
theorem dX11_lays_24 : decode cX11_lays 24 = .ok (.getfield 28, 3) := by decide +kernel
theorem dX11_lays_27 : decode cX11_lays 27 = .ok (.bipush 56, 2) := by decide +kernel
theorem dX11_lays_29 : decode cX11_lays 29 = .ok (.sipush 400, 3) := by decide +kernel
theorem dX11_lays_32 : decode cX11_lays 32 = .ok (.iload_n 1, 1) := by decide +kernel
theorem dX11_lays_33 : decode cX11_lays 33 = .ok (.imul, 1) := by decide +kernel
theorem dX11_lays_34 : decode cX11_lays 34 = .ok (.iadd, 1) := by decide +kernel
theorem dX11_lays_35 : decode cX11_lays 35 = .ok (.iload_n 2, 1) := by decide +kernel
theorem dX11_lays_36 : decode cX11_lays 36 = .ok (.iadd, 1) := by decide +kernel
theorem dX11_lays_37 : decode cX11_lays 37 = .ok (.aload_n 0, 1) := by decide +kernel
theorem dX11_lays_38 : decode cX11_lays 38 = .ok (.getfield 54, 3) := by decide +kernel
theorem dX11_lays_41 : decode cX11_lays 41 = .ok (.iload_n 2, 1) := by decide +kernel
theorem dX11_lays_42 : decode cX11_lays 42 = .ok (.iaload, 1) := by decide +kernel
theorem dX11_lays_43 : decode cX11_lays 43 = .ok (.iastore, 1) := by decide +kernel
theorem dX11_lays_44 : decode cX11_lays 44 = .ok (.aload_n 0, 1) := by decide +kernel
theorem dX11_lays_45 : decode cX11_lays 45 = .ok (.getfield 28, 3) := by decide +kernel
theorem dX11_lays_48 : decode cX11_lays 48 = .ok (.sipush 2856, 3) := by decide +kernel
theorem dX11_lays_51 : decode cX11_lays 51 = .ok (.sipush 400, 3) := by decide +kernel
theorem dX11_lays_54 : decode cX11_lays 54 = .ok (.iload_n 1, 1) := by decide +kernel
theorem dX11_lays_55 : decode cX11_lays 55 = .ok (.imul, 1) := by decide +kernel
theorem dX11_lays_56 : decode cX11_lays 56 = .ok (.iadd, 1) := by decide +kernel
theorem dX11_lays_57 : decode cX11_lays 57 = .ok (.iload_n 2, 1) := by decide +kernel
theorem dX11_lays_58 : decode cX11_lays 58 = .ok (.iadd, 1) := by decide +kernel
theorem dX11_lays_59 : decode cX11_lays 59 = .ok (.aload_n 0, 1) := by decide +kernel
theorem dX11_lays_60 : decode cX11_lays 60 = .ok (.getfield 57, 3) := by decide +kernel
theorem dX11_lays_63 : decode cX11_lays 63 = .ok (.iload_n 2, 1) := by decide +kernel
theorem dX11_lays_64 : decode cX11_lays 64 = .ok (.iaload, 1) := by decide +kernel
theorem dX11_lays_65 : decode cX11_lays 65 = .ok (.iastore, 1) := by decide +kernel
theorem dX11_lays_66 : decode cX11_lays 66 = .ok (.iinc 2 1, 3) := by decide +kernel
theorem dX11_lays_69 : decode cX11_lays 69 = .ok (.goto (-54), 3) := by decide +kernel
theorem dX11_lays_72 : decode cX11_lays 72 = .ok (.return_, 1) := by decide +kernel
theorem dX11_law_0 : decode cX11_law 0 = .ok (.aload_n 0, 1) := by decide +kernel
theorem dX11_law_1 : decode cX11_law 1 = .ok (.getfield 28, 3) := by decide +kernel
theorem dX11_law_4 : decode cX11_law 4 = .ok (.bipush 47, 2) := by decide +kernel
theorem dX11_law_6 : decode cX11_law 6 = .ok (.iaload, 1) := by decide +kernel
theorem dX11_law_7 : decode cX11_law 7 = .ok (.bipush 6, 2) := by decide +kernel
theorem dX11_law_9 : decode cX11_law 9 = .ok (.if_icmp .ne 15, 3) := by decide +kernel
theorem dX11_law_12 : decode cX11_law 12 = .ok (.aload_n 0, 1) := by decide +kernel
theorem dX11_law_13 : decode cX11_law 13 = .ok (.iconst 0, 1) := by decide +kernel
theorem dX11_law_14 : decode cX11_law 14 = .ok (.putfield 151, 3) := by decide +kernel
theorem dX11_law_17 : decode cX11_law 17 = .ok (.aload_n 0, 1) := by decide +kernel
theorem dX11_law_18 : decode cX11_law 18 = .ok (.bipush (-5), 2) := by decide +kernel
theorem dX11_law_20 : decode cX11_law 20 = .ok (.invokevirtual 106, 3) := by decide +kernel
theorem dX11_law_23 : decode cX11_law 23 = .ok (.ireturn, 1) := by decide +kernel
theorem dX11_law_24 : decode cX11_law 24 = .ok (.aload_n 0, 1) := by decide +kernel
theorem dX11_law_25 : decode cX11_law 25 = .ok (.iconst 0, 1) := by decide +kernel
theorem dX11_law_26 : decode cX11_law 26 = .ok (.invokevirtual 250, 3) := by decide +kernel
theorem dX11_law_29 : decode cX11_law 29 = .ok (.ifCond .ne 10, 3) := by decide +kernel
theorem dX11_law_32 : decode cX11_law 32 = .ok (.aload_n 0, 1) := by decide +kernel
theorem dX11_law_33 : decode cX11_law 33 = .ok (.bipush (-6), 2) := by decide +kernel
theorem dX11_law_35 : decode cX11_law 35 = .ok (.invokevirtual 106, 3) := by decide +kernel
theorem dX11_law_38 : decode cX11_law 38 = .ok (.ireturn, 1) := by decide +kernel
theorem dX11_law_39 : decode cX11_law 39 = .ok (.aload_n 0, 1) := by decide +kernel
theorem dX11_law_40 : decode cX11_law 40 = .ok (.aload_n 0, 1) := by decide +kernel
theorem dX11_law_41 : decode cX11_law 41 = .ok (.getfield 28, 3) := by decide +kernel
theorem dX11_law_44 : decode cX11_law 44 = .ok (.bipush 47, 2) := by decide +kernel
theorem dX11_law_46 : decode cX11_law 46 = .ok (.iaload, 1) := by decide +kernel
theorem dX11_law_47 : decode cX11_law 47 = .ok (.invokevirtual 254, 3) := by decide +kernel
theorem dX11_law_50 : decode cX11_law 50 = .ok (.aload_n 0, 1) := by decide +kernel
theorem dX11_law_51 : decode cX11_law 51 = .ok (.getfield 28, 3) := by decide +kernel
theorem dX11_law_54 : decode cX11_law 54 = .ok (.bipush 47, 2) := by decide +kernel
theorem dX11_law_56 : decode cX11_law 56 = .ok (.dup2, 1) := by decide +kernel
theorem dX11_law_57 : decode cX11_law 57 = .ok (.iaload, 1) := by decide +kernel
theorem dX11_law_58 : decode cX11_law 58 = .ok (.iconst 1, 1) := by decide +kernel
theorem dX11_law_59 : decode cX11_law 59 = .ok (.iadd, 1) := by decide +kernel
theorem dX11_law_60 : decode cX11_law 60 = .ok (.iastore, 1) := by decide +kernel
theorem dX11_law_61 : decode cX11_law 61 = .ok (.aload_n 0, 1) := by decide +kernel
theorem dX11_law_62 : decode cX11_law 62 = .ok (.aload_n 0, 1) := by decide +kernel
theorem dX11_law_63 : decode cX11_law 63 = .ok (.getfield 28, 3) := by decide +kernel
theorem dX11_law_66 : decode cX11_law 66 = .ok (.bipush 47, 2) := by decide +kernel
theorem dX11_law_68 : decode cX11_law 68 = .ok (.iaload, 1) := by decide +kernel
theorem dX11_law_69 : decode cX11_law 69 = .ok (.iconst 1, 1) := by decide +kernel
theorem dX11_law_70 : decode cX11_law 70 = .ok (.isub, 1) := by decide +kernel
theorem dX11_law_71 : decode cX11_law 71 = .ok (.invokevirtual 14, 3) := by decide +kernel
theorem dX11_law_74 : decode cX11_law 74 = .ok (.ireturn, 1) := by decide +kernel
theorem dX11_fault_0 : decode cX11_fault 0 = .ok (.aload_n 0, 1) := by decide +kernel
theorem dX11_fault_1 : decode cX11_fault 1 = .ok (.getfield 51, 3) := by decide +kernel
theorem dX11_fault_4 : decode cX11_fault 4 = .ok (.ireturn, 1) := by decide +kernel
theorem dX11_isLaw_0 : decode cX11_isLaw 0 = .ok (.iload_n 1, 1) := by decide +kernel
theorem dX11_isLaw_1 : decode cX11_isLaw 1 = .ok (.iconst (-1), 1) := by decide +kernel
theorem dX11_isLaw_2 : decode cX11_isLaw 2 = .ok (.aload_n 0, 1) := by decide +kernel
theorem dX11_isLaw_3 : decode cX11_isLaw 3 = .ok (.getfield 28, 3) := by decide +kernel
theorem dX11_isLaw_6 : decode cX11_isLaw 6 = .ok (.bipush 47, 2) := by decide +kernel
theorem dX11_isLaw_8 : decode cX11_isLaw 8 = .ok (.iaload, 1) := by decide +kernel
theorem dX11_isLaw_9 : decode cX11_isLaw 9 = .ok (.iconst 1, 1) := by decide +kernel
theorem dX11_isLaw_10 : decode cX11_isLaw 10 = .ok (.isub, 1) := by decide +kernel
theorem dX11_isLaw_11 : decode cX11_isLaw 11 = .ok (.invokestatic 18, 3) := by decide +kernel
theorem dX11_isLaw_14 : decode cX11_isLaw 14 = .ok (.ireturn, 1) := by decide +kernel
theorem dX11_force_0 : decode cX11_force 0 = .ok (.aload_n 0, 1) := by decide +kernel
theorem dX11_force_1 : decode cX11_force 1 = .ok (.iload_n 1, 1) := by decide +kernel
theorem dX11_force_2 : decode cX11_force 2 = .ok (.invokevirtual 257, 3) := by decide +kernel
theorem dX11_force_5 : decode cX11_force 5 = .ok (.ifCond .ne 10, 3) := by decide +kernel
theorem dX11_force_8 : decode cX11_force 8 = .ok (.aload_n 0, 1) := by decide +kernel
theorem dX11_force_9 : decode cX11_force 9 = .ok (.bipush (-2), 2) := by decide +kernel
theorem dX11_force_11 : decode cX11_force 11 = .ok (.invokevirtual 106, 3) := by decide +kernel
theorem dX11_force_14 : decode cX11_force 14 = .ok (.ireturn, 1) := by decide +kernel
theorem dX11_force_15 : decode cX11_force 15 = .ok (.aload_n 0, 1) := by decide +kernel
theorem dX11_force_16 : decode cX11_force 16 = .ok (.getfield 28, 3) := by decide +kernel
theorem dX11_force_19 : decode cX11_force 19 = .ok (.bipush 48, 2) := by decide +kernel
theorem dX11_force_21 : decode cX11_force 21 = .ok (.iaload, 1) := by decide +kernel
theorem dX11_force_22 : decode cX11_force 22 = .ok (.istore_n 2, 1) := by decide +kernel
theorem dX11_force_23 : decode cX11_force 23 = .ok (.aload_n 0, 1) := by decide +kernel
theorem dX11_force_24 : decode cX11_force 24 = .ok (.getfield 28, 3) := by decide +kernel
theorem dX11_force_27 : decode cX11_force 27 = .ok (.bipush 48, 2) := by decide +kernel
theorem dX11_force_29 : decode cX11_force 29 = .ok (.iload_n 1, 1) := by decide +kernel
theorem dX11_force_30 : decode cX11_force 30 = .ok (.iastore, 1) := by decide +kernel
theorem dX11_force_31 : decode cX11_force 31 = .ok (.aload_n 0, 1) := by decide +kernel
theorem dX11_force_32 : decode cX11_force 32 = .ok (.iload_n 2, 1) := by decide +kernel
theorem dX11_force_33 : decode cX11_force 33 = .ok (.invokevirtual 14, 3) := by decide +kernel
theorem dX11_force_36 : decode cX11_force 36 = .ok (.ireturn, 1) := by decide +kernel
theorem dX11_codeAt_0 : decode cX11_codeAt 0 = .ok (.iload_n 1, 1) := by decide +kernel
theorem dX11_codeAt_1 : decode cX11_codeAt 1 = .ok (.aload_n 0, 1) := by decide +kernel
theorem dX11_codeAt_2 : decode cX11_codeAt 2 = .ok (.getfield 260, 3) := by decide +kernel
theorem dX11_codeAt_5 : decode cX11_codeAt 5 = .ok (.if_icmp .ge 15, 3) := by decide +kernel
theorem dX11_codeAt_8 : decode cX11_codeAt 8 = .ok (.aload_n 0, 1) := by decide +kernel
theorem dX11_codeAt_9 : decode cX11_codeAt 9 = .ok (.getfield 28, 3) := by decide +kernel
theorem dX11_codeAt_12 : decode cX11_codeAt 12 = .ok (.bipush 56, 2) := by decide +kernel
theorem dX11_codeAt_14 : decode cX11_codeAt 14 = .ok (.iload_n 1, 1) := by decide +kernel
theorem dX11_codeAt_15 : decode cX11_codeAt 15 = .ok (.iadd, 1) := by decide +kernel
theorem dX11_codeAt_16 : decode cX11_codeAt 16 = .ok (.iaload, 1) := by decide +kernel
theorem dX11_codeAt_17 : decode cX11_codeAt 17 = .ok (.goto 4, 3) := by decide +kernel
theorem dX11_codeAt_20 : decode cX11_codeAt 20 = .ok (.iconst 0, 1) := by decide +kernel
theorem dX11_codeAt_21 : decode cX11_codeAt 21 = .ok (.ireturn, 1) := by decide +kernel
theorem dX11_passes0_0 : decode cX11_passes0 0 = .ok (.aload_n 0, 1) := by decide +kernel
theorem dX11_passes0_1 : decode cX11_passes0 1 = .ok (.aload_n 0, 1) := by decide +kernel
theorem dX11_passes0_2 : decode cX11_passes0 2 = .ok (.getfield 263, 3) := by decide +kernel
theorem dX11_passes0_5 : decode cX11_passes0 5 = .ok (.invokevirtual 266, 3) := by decide +kernel
theorem dX11_passes0_8 : decode cX11_passes0 8 = .ok (.iload_n 1, 1) := by decide +kernel
theorem dX11_passes0_9 : decode cX11_passes0 9 = .ok (.if_icmp .ne 7, 3) := by decide +kernel
theorem dX11_passes0_12 : decode cX11_passes0 12 = .ok (.iconst 1, 1) := by decide +kernel
theorem dX11_passes0_13 : decode cX11_passes0 13 = .ok (.goto 4, 3) := by decide +kernel
theorem dX11_passes0_16 : decode cX11_passes0 16 = .ok (.iconst 0, 1) := by decide +kernel
theorem dX11_passes0_17 : decode cX11_passes0 17 = .ok (.istore_n 2, 1) := by decide +kernel
theorem dX11_passes0_18 : decode cX11_passes0 18 = .ok (.iload_n 2, 1) := by decide +kernel
theorem dX11_passes0_19 : decode cX11_passes0 19 = .ok (.ifCond .eq 13, 3) := by decide +kernel
theorem dX11_passes0_22 : decode cX11_passes0 22 = .ok (.aload_n 0, 1) := by decide +kernel
theorem dX11_passes0_23 : decode cX11_passes0 23 = .ok (.dup, 1) := by decide +kernel
theorem dX11_passes0_24 : decode cX11_passes0 24 = .ok (.getfield 263, 3) := by decide +kernel
theorem dX11_passes0_27 : decode cX11_passes0 27 = .ok (.iconst 1, 1) := by decide +kernel
theorem dX11_passes0_28 : decode cX11_passes0 28 = .ok (.iadd, 1) := by decide +kernel
theorem dX11_passes0_29 : decode cX11_passes0 29 = .ok (.putfield 263, 3) := by decide +kernel
theorem dX11_passes0_32 : decode cX11_passes0 32 = .ok (.iload_n 2, 1) := by decide +kernel
theorem dX11_passes0_33 : decode cX11_passes0 33 = .ok (.ireturn, 1) := by decide +kernel
theorem dX11_bounded_0 : decode cX11_bounded 0 = .ok (.iload_n 3, 1) := by decide +kernel
theorem dX11_bounded_1 : decode cX11_bounded 1 = .ok (.ifCond .eq 24, 3) := by decide +kernel
theorem dX11_bounded_4 : decode cX11_bounded 4 = .ok (.lload_n 1, 1) := by decide +kernel
theorem dX11_bounded_5 : decode cX11_bounded 5 = .ok (.ldc2_w 269, 3) := by decide +kernel
theorem dX11_bounded_8 : decode cX11_bounded 8 = .ok (.lcmp, 1) := by decide +kernel
theorem dX11_bounded_9 : decode cX11_bounded 9 = .ok (.ifCond .gt 11, 3) := by decide +kernel
theorem dX11_bounded_12 : decode cX11_bounded 12 = .ok (.lload_n 1, 1) := by decide +kernel
theorem dX11_bounded_13 : decode cX11_bounded 13 = .ok (.ldc2_w 271, 3) := by decide +kernel
theorem dX11_bounded_16 : decode cX11_bounded 16 = .ok (.lcmp, 1) := by decide +kernel
theorem dX11_bounded_17 : decode cX11_bounded 17 = .ok (.ifCond .ge 8, 3) := by decide +kernel
theorem dX11_bounded_20 : decode cX11_bounded 20 = .ok (.aload_n 0, 1) := by decide +kernel
theorem dX11_bounded_21 : decode cX11_bounded 21 = .ok (.iconst 1, 1) := by decide +kernel
theorem dX11_bounded_22 : decode cX11_bounded 22 = .ok (.putfield 273, 3) := by decide +kernel
theorem dX11_bounded_25 : decode cX11_bounded 25 = .ok (.aload_n 0, 1) := by decide +kernel
theorem dX11_bounded_26 : decode cX11_bounded 26 = .ok (.getfield 273, 3) := by decide +kernel
theorem dX11_bounded_29 : decode cX11_bounded 29 = .ok (.ifCond .eq 7, 3) := by decide +kernel
theorem dX11_bounded_32 : decode cX11_bounded 32 = .ok (.lconst 0, 1) := by decide +kernel
theorem dX11_bounded_33 : decode cX11_bounded 33 = .ok (.goto 4, 3) := by decide +kernel
theorem dX11_bounded_36 : decode cX11_bounded 36 = .ok (.lload_n 1, 1) := by decide +kernel
theorem dX11_bounded_37 : decode cX11_bounded 37 = .ok (.lreturn, 1) := by decide +kernel
theorem dX11_sumOf_0 : decode cX11_sumOf 0 = .ok (.aload_n 0, 1) := by decide +kernel
theorem dX11_sumOf_1 : decode cX11_sumOf 1 = .ok (.iload_n 1, 1) := by decide +kernel
theorem dX11_sumOf_2 : decode cX11_sumOf 2 = .ok (.invokevirtual 276, 3) := by decide +kernel
theorem dX11_sumOf_5 : decode cX11_sumOf 5 = .ok (.lstore_n 2, 1) := by decide +kernel
theorem dX11_sumOf_6 : decode cX11_sumOf 6 = .ok (.aload_n 0, 1) := by decide +kernel
theorem dX11_sumOf_7 : decode cX11_sumOf 7 = .ok (.aload_n 0, 1) := by decide +kernel
theorem dX11_sumOf_8 : decode cX11_sumOf 8 = .ok (.getfield 263, 3) := by decide +kernel
theorem dX11_sumOf_11 : decode cX11_sumOf 11 = .ok (.invokevirtual 266, 3) := by decide +kernel
theorem dX11_sumOf_14 : decode cX11_sumOf 14 = .ok (.bipush 43, 2) := by decide +kernel
theorem dX11_sumOf_16 : decode cX11_sumOf 16 = .ok (.invokestatic 222, 3) := by decide +kernel
theorem dX11_sumOf_19 : decode cX11_sumOf 19 = .ok (.if_icmp .eq 19, 3) := by decide +kernel
theorem dX11_sumOf_22 : decode cX11_sumOf 22 = .ok (.aload_n 0, 1) := by decide +kernel
theorem dX11_sumOf_23 : decode cX11_sumOf 23 = .ok (.aload_n 0, 1) := by decide +kernel
theorem dX11_sumOf_24 : decode cX11_sumOf 24 = .ok (.getfield 263, 3) := by decide +kernel
theorem dX11_sumOf_27 : decode cX11_sumOf 27 = .ok (.invokevirtual 266, 3) := by decide +kernel
theorem dX11_sumOf_30 : decode cX11_sumOf 30 = .ok (.bipush 45, 2) := by decide +kernel
theorem dX11_sumOf_32 : decode cX11_sumOf 32 = .ok (.invokestatic 222, 3) := by decide +kernel
theorem dX11_sumOf_35 : decode cX11_sumOf 35 = .ok (.if_icmp .ne 68, 3) := by decide +kernel
theorem dX11_sumOf_38 : decode cX11_sumOf 38 = .ok (.aload_n 0, 1) := by decide +kernel
theorem dX11_sumOf_39 : decode cX11_sumOf 39 = .ok (.aload_n 0, 1) := by decide +kernel
theorem dX11_sumOf_40 : decode cX11_sumOf 40 = .ok (.getfield 263, 3) := by decide +kernel
theorem dX11_sumOf_43 : decode cX11_sumOf 43 = .ok (.invokevirtual 266, 3) := by decide +kernel
theorem dX11_sumOf_46 : decode cX11_sumOf 46 = .ok (.bipush 43, 2) := by decide +kernel
theorem dX11_sumOf_48 : decode cX11_sumOf 48 = .ok (.invokestatic 222, 3) := by decide +kernel
theorem dX11_sumOf_51 : decode cX11_sumOf 51 = .ok (.if_icmp .ne 7, 3) := by decide +kernel
theorem dX11_sumOf_54 : decode cX11_sumOf 54 = .ok (.iconst 1, 1) := by decide +kernel
theorem dX11_sumOf_55 : decode cX11_sumOf 55 = .ok (.goto 4, 3) := by decide +kernel
theorem dX11_sumOf_58 : decode cX11_sumOf 58 = .ok (.iconst 0, 1) := by decide +kernel
theorem dX11_sumOf_59 : decode cX11_sumOf 59 = .ok (.istore 4, 2) := by decide +kernel
theorem dX11_sumOf_61 : decode cX11_sumOf 61 = .ok (.aload_n 0, 1) := by decide +kernel
theorem dX11_sumOf_62 : decode cX11_sumOf 62 = .ok (.dup, 1) := by decide +kernel
theorem dX11_sumOf_63 : decode cX11_sumOf 63 = .ok (.getfield 263, 3) := by decide +kernel
theorem dX11_sumOf_66 : decode cX11_sumOf 66 = .ok (.iconst 1, 1) := by decide +kernel
theorem dX11_sumOf_67 : decode cX11_sumOf 67 = .ok (.iadd, 1) := by decide +kernel
theorem dX11_sumOf_68 : decode cX11_sumOf 68 = .ok (.putfield 263, 3) := by decide +kernel
theorem dX11_sumOf_71 : decode cX11_sumOf 71 = .ok (.aload_n 0, 1) := by decide +kernel
theorem dX11_sumOf_72 : decode cX11_sumOf 72 = .ok (.iload_n 1, 1) := by decide +kernel
theorem dX11_sumOf_73 : decode cX11_sumOf 73 = .ok (.invokevirtual 276, 3) := by decide +kernel
theorem dX11_sumOf_76 : decode cX11_sumOf 76 = .ok (.lstore 5, 2) := by decide +kernel
theorem dX11_sumOf_78 : decode cX11_sumOf 78 = .ok (.aload_n 0, 1) := by decide +kernel
theorem dX11_sumOf_79 : decode cX11_sumOf 79 = .ok (.iload 4, 2) := by decide +kernel
theorem dX11_sumOf_81 : decode cX11_sumOf 81 = .ok (.ifCond .eq 10, 3) := by decide +kernel
theorem dX11_sumOf_84 : decode cX11_sumOf 84 = .ok (.lload_n 2, 1) := by decide +kernel
theorem dX11_sumOf_85 : decode cX11_sumOf 85 = .ok (.lload 5, 2) := by decide +kernel
theorem dX11_sumOf_87 : decode cX11_sumOf 87 = .ok (.ladd, 1) := by decide +kernel
theorem dX11_sumOf_88 : decode cX11_sumOf 88 = .ok (.goto 7, 3) := by decide +kernel
theorem dX11_sumOf_91 : decode cX11_sumOf 91 = .ok (.lload_n 2, 1) := by decide +kernel
theorem dX11_sumOf_92 : decode cX11_sumOf 92 = .ok (.lload 5, 2) := by decide +kernel
theorem dX11_sumOf_94 : decode cX11_sumOf 94 = .ok (.lsub, 1) := by decide +kernel
theorem dX11_sumOf_95 : decode cX11_sumOf 95 = .ok (.iload_n 1, 1) := by decide +kernel
theorem dX11_sumOf_96 : decode cX11_sumOf 96 = .ok (.invokevirtual 280, 3) := by decide +kernel
theorem dX11_sumOf_99 : decode cX11_sumOf 99 = .ok (.lstore_n 2, 1) := by decide +kernel
theorem dX11_sumOf_100 : decode cX11_sumOf 100 = .ok (.goto (-94), 3) := by decide +kernel
theorem dX11_sumOf_103 : decode cX11_sumOf 103 = .ok (.lload_n 2, 1) := by decide +kernel
theorem dX11_sumOf_104 : decode cX11_sumOf 104 = .ok (.lreturn, 1) := by decide +kernel
theorem dX11_termOf_0 : decode cX11_termOf 0 = .ok (.aload_n 0, 1) := by decide +kernel
theorem dX11_termOf_1 : decode cX11_termOf 1 = .ok (.iload_n 1, 1) := by decide +kernel
theorem dX11_termOf_2 : decode cX11_termOf 2 = .ok (.invokevirtual 284, 3) := by decide +kernel
theorem dX11_termOf_5 : decode cX11_termOf 5 = .ok (.lstore_n 2, 1) := by decide +kernel
theorem dX11_termOf_6 : decode cX11_termOf 6 = .ok (.aload_n 0, 1) := by decide +kernel
theorem dX11_termOf_7 : decode cX11_termOf 7 = .ok (.aload_n 0, 1) := by decide +kernel
theorem dX11_termOf_8 : decode cX11_termOf 8 = .ok (.getfield 263, 3) := by decide +kernel
theorem dX11_termOf_11 : decode cX11_termOf 11 = .ok (.invokevirtual 266, 3) := by decide +kernel
theorem dX11_termOf_14 : decode cX11_termOf 14 = .ok (.bipush 42, 2) := by decide +kernel
theorem dX11_termOf_16 : decode cX11_termOf 16 = .ok (.invokestatic 222, 3) := by decide +kernel
theorem dX11_termOf_19 : decode cX11_termOf 19 = .ok (.if_icmp .eq 35, 3) := by decide +kernel
theorem dX11_termOf_22 : decode cX11_termOf 22 = .ok (.aload_n 0, 1) := by decide +kernel
theorem dX11_termOf_23 : decode cX11_termOf 23 = .ok (.aload_n 0, 1) := by decide +kernel
theorem dX11_termOf_24 : decode cX11_termOf 24 = .ok (.getfield 263, 3) := by decide +kernel
theorem dX11_termOf_27 : decode cX11_termOf 27 = .ok (.invokevirtual 266, 3) := by decide +kernel
theorem dX11_termOf_30 : decode cX11_termOf 30 = .ok (.bipush 47, 2) := by decide +kernel
theorem dX11_termOf_32 : decode cX11_termOf 32 = .ok (.invokestatic 222, 3) := by decide +kernel
theorem dX11_termOf_35 : decode cX11_termOf 35 = .ok (.if_icmp .eq 19, 3) := by decide +kernel
theorem dX11_termOf_38 : decode cX11_termOf 38 = .ok (.aload_n 0, 1) := by decide +kernel
theorem dX11_termOf_39 : decode cX11_termOf 39 = .ok (.aload_n 0, 1) := by decide +kernel
theorem dX11_termOf_40 : decode cX11_termOf 40 = .ok (.getfield 263, 3) := by decide +kernel
theorem dX11_termOf_43 : decode cX11_termOf 43 = .ok (.invokevirtual 266, 3) := by decide +kernel
theorem dX11_termOf_46 : decode cX11_termOf 46 = .ok (.bipush 37, 2) := by decide +kernel
theorem dX11_termOf_48 : decode cX11_termOf 48 = .ok (.invokestatic 222, 3) := by decide +kernel
theorem dX11_termOf_51 : decode cX11_termOf 51 = .ok (.if_icmp .ne 117, 3) := by decide +kernel
theorem dX11_termOf_54 : decode cX11_termOf 54 = .ok (.aload_n 0, 1) := by decide +kernel
theorem dX11_termOf_55 : decode cX11_termOf 55 = .ok (.aload_n 0, 1) := by decide +kernel
theorem dX11_termOf_56 : decode cX11_termOf 56 = .ok (.getfield 263, 3) := by decide +kernel
theorem dX11_termOf_59 : decode cX11_termOf 59 = .ok (.invokevirtual 266, 3) := by decide +kernel
theorem dX11_termOf_62 : decode cX11_termOf 62 = .ok (.istore 4, 2) := by decide +kernel
theorem dX11_termOf_64 : decode cX11_termOf 64 = .ok (.aload_n 0, 1) := by decide +kernel
theorem dX11_termOf_65 : decode cX11_termOf 65 = .ok (.dup, 1) := by decide +kernel
theorem dX11_termOf_66 : decode cX11_termOf 66 = .ok (.getfield 263, 3) := by decide +kernel
theorem dX11_termOf_69 : decode cX11_termOf 69 = .ok (.iconst 1, 1) := by decide +kernel
theorem dX11_termOf_70 : decode cX11_termOf 70 = .ok (.iadd, 1) := by decide +kernel
theorem dX11_termOf_71 : decode cX11_termOf 71 = .ok (.putfield 263, 3) := by decide +kernel
theorem dX11_termOf_74 : decode cX11_termOf 74 = .ok (.aload_n 0, 1) := by decide +kernel
theorem dX11_termOf_75 : decode cX11_termOf 75 = .ok (.iload_n 1, 1) := by decide +kernel
theorem dX11_termOf_76 : decode cX11_termOf 76 = .ok (.invokevirtual 284, 3) := by decide +kernel
theorem dX11_termOf_79 : decode cX11_termOf 79 = .ok (.lstore 5, 2) := by decide +kernel
theorem dX11_termOf_81 : decode cX11_termOf 81 = .ok (.iload 4, 2) := by decide +kernel
theorem dX11_termOf_83 : decode cX11_termOf 83 = .ok (.bipush 42, 2) := by decide +kernel
theorem dX11_termOf_85 : decode cX11_termOf 85 = .ok (.invokestatic 222, 3) := by decide +kernel
theorem dX11_termOf_88 : decode cX11_termOf 88 = .ok (.if_icmp .eq 33, 3) := by decide +kernel
theorem dX11_termOf_91 : decode cX11_termOf 91 = .ok (.lload 5, 2) := by decide +kernel
theorem dX11_termOf_93 : decode cX11_termOf 93 = .ok (.lconst 0, 1) := by decide +kernel
theorem dX11_termOf_94 : decode cX11_termOf 94 = .ok (.lcmp, 1) := by decide +kernel
theorem dX11_termOf_95 : decode cX11_termOf 95 = .ok (.ifCond .ne 26, 3) := by decide +kernel
theorem dX11_termOf_98 : decode cX11_termOf 98 = .ok (.aload_n 0, 1) := by decide +kernel
theorem dX11_termOf_99 : decode cX11_termOf 99 = .ok (.aload_n 0, 1) := by decide +kernel
theorem dX11_termOf_100 : decode cX11_termOf 100 = .ok (.getfield 273, 3) := by decide +kernel
theorem dX11_termOf_103 : decode cX11_termOf 103 = .ok (.ifCond .ne 7, 3) := by decide +kernel
theorem dX11_termOf_106 : decode cX11_termOf 106 = .ok (.iload_n 1, 1) := by decide +kernel
theorem dX11_termOf_107 : decode cX11_termOf 107 = .ok (.ifCond .eq 7, 3) := by decide +kernel
theorem dX11_termOf_110 : decode cX11_termOf 110 = .ok (.iconst 1, 1) := by decide +kernel
theorem dX11_termOf_111 : decode cX11_termOf 111 = .ok (.goto 4, 3) := by decide +kernel
theorem dX11_termOf_114 : decode cX11_termOf 114 = .ok (.iconst 0, 1) := by decide +kernel
theorem dX11_termOf_115 : decode cX11_termOf 115 = .ok (.putfield 273, 3) := by decide +kernel
theorem dX11_termOf_118 : decode cX11_termOf 118 = .ok (.lconst 1, 1) := by decide +kernel
theorem dX11_termOf_119 : decode cX11_termOf 119 = .ok (.lstore 5, 2) := by decide +kernel
theorem dX11_termOf_121 : decode cX11_termOf 121 = .ok (.aload_n 0, 1) := by decide +kernel
theorem dX11_termOf_122 : decode cX11_termOf 122 = .ok (.iload 4, 2) := by decide +kernel
theorem dX11_termOf_124 : decode cX11_termOf 124 = .ok (.bipush 42, 2) := by decide +kernel
theorem dX11_termOf_126 : decode cX11_termOf 126 = .ok (.invokestatic 222, 3) := by decide +kernel
theorem dX11_termOf_129 : decode cX11_termOf 129 = .ok (.if_icmp .ne 10, 3) := by decide +kernel
theorem dX11_termOf_132 : decode cX11_termOf 132 = .ok (.lload_n 2, 1) := by decide +kernel
theorem dX11_termOf_133 : decode cX11_termOf 133 = .ok (.lload 5, 2) := by decide +kernel
theorem dX11_termOf_135 : decode cX11_termOf 135 = .ok (.lmul, 1) := by decide +kernel
theorem dX11_termOf_136 : decode cX11_termOf 136 = .ok (.goto 24, 3) := by decide +kernel
theorem dX11_termOf_139 : decode cX11_termOf 139 = .ok (.iload 4, 2) := by decide +kernel
theorem dX11_termOf_141 : decode cX11_termOf 141 = .ok (.bipush 47, 2) := by decide +kernel
theorem dX11_termOf_143 : decode cX11_termOf 143 = .ok (.invokestatic 222, 3) := by decide +kernel
theorem dX11_termOf_146 : decode cX11_termOf 146 = .ok (.if_icmp .ne 10, 3) := by decide +kernel
theorem dX11_termOf_149 : decode cX11_termOf 149 = .ok (.lload_n 2, 1) := by decide +kernel
theorem dX11_termOf_150 : decode cX11_termOf 150 = .ok (.lload 5, 2) := by decide +kernel
theorem dX11_termOf_152 : decode cX11_termOf 152 = .ok (.ldiv, 1) := by decide +kernel
theorem dX11_termOf_153 : decode cX11_termOf 153 = .ok (.goto 7, 3) := by decide +kernel
theorem dX11_termOf_156 : decode cX11_termOf 156 = .ok (.lload_n 2, 1) := by decide +kernel
theorem dX11_termOf_157 : decode cX11_termOf 157 = .ok (.lload 5, 2) := by decide +kernel
theorem dX11_termOf_159 : decode cX11_termOf 159 = .ok (.lrem, 1) := by decide +kernel
theorem dX11_termOf_160 : decode cX11_termOf 160 = .ok (.iload_n 1, 1) := by decide +kernel
theorem dX11_termOf_161 : decode cX11_termOf 161 = .ok (.invokevirtual 280, 3) := by decide +kernel
theorem dX11_termOf_164 : decode cX11_termOf 164 = .ok (.lstore_n 2, 1) := by decide +kernel
theorem dX11_termOf_165 : decode cX11_termOf 165 = .ok (.goto (-159), 3) := by decide +kernel
theorem dX11_termOf_168 : decode cX11_termOf 168 = .ok (.lload_n 2, 1) := by decide +kernel
theorem dX11_termOf_169 : decode cX11_termOf 169 = .ok (.lreturn, 1) := by decide +kernel
theorem dX11_partOf_0 : decode cX11_partOf 0 = .ok (.aload_n 0, 1) := by decide +kernel
theorem dX11_partOf_1 : decode cX11_partOf 1 = .ok (.bipush 91, 2) := by decide +kernel
theorem dX11_partOf_3 : decode cX11_partOf 3 = .ok (.invokestatic 222, 3) := by decide +kernel
theorem dX11_partOf_6 : decode cX11_partOf 6 = .ok (.invokevirtual 287, 3) := by decide +kernel
theorem dX11_partOf_9 : decode cX11_partOf 9 = .ok (.ifCond .eq 21, 3) := by decide +kernel
theorem dX11_partOf_12 : decode cX11_partOf 12 = .ok (.aload_n 0, 1) := by decide +kernel
theorem dX11_partOf_13 : decode cX11_partOf 13 = .ok (.iload_n 1, 1) := by decide +kernel
theorem dX11_partOf_14 : decode cX11_partOf 14 = .ok (.invokevirtual 290, 3) := by decide +kernel
theorem dX11_partOf_17 : decode cX11_partOf 17 = .ok (.lstore_n 2, 1) := by decide +kernel
theorem dX11_partOf_18 : decode cX11_partOf 18 = .ok (.aload_n 0, 1) := by decide +kernel
theorem dX11_partOf_19 : decode cX11_partOf 19 = .ok (.dup, 1) := by decide +kernel
theorem dX11_partOf_20 : decode cX11_partOf 20 = .ok (.getfield 263, 3) := by decide +kernel
theorem dX11_partOf_23 : decode cX11_partOf 23 = .ok (.iconst 1, 1) := by decide +kernel
theorem dX11_partOf_24 : decode cX11_partOf 24 = .ok (.iadd, 1) := by decide +kernel
theorem dX11_partOf_25 : decode cX11_partOf 25 = .ok (.putfield 263, 3) := by decide +kernel
theorem dX11_partOf_28 : decode cX11_partOf 28 = .ok (.lload_n 2, 1) := by decide +kernel
theorem dX11_partOf_29 : decode cX11_partOf 29 = .ok (.lreturn, 1) := by decide +kernel
theorem dX11_partOf_30 : decode cX11_partOf 30 = .ok (.aload_n 0, 1) := by decide +kernel
theorem dX11_partOf_31 : decode cX11_partOf 31 = .ok (.aload_n 0, 1) := by decide +kernel
theorem dX11_partOf_32 : decode cX11_partOf 32 = .ok (.getfield 263, 3) := by decide +kernel
theorem dX11_partOf_35 : decode cX11_partOf 35 = .ok (.invokevirtual 266, 3) := by decide +kernel
theorem dX11_partOf_38 : decode cX11_partOf 38 = .ok (.istore_n 2, 1) := by decide +kernel
theorem dX11_partOf_39 : decode cX11_partOf 39 = .ok (.iconst 0, 1) := by decide +kernel
theorem dX11_partOf_40 : decode cX11_partOf 40 = .ok (.istore_n 3, 1) := by decide +kernel
theorem dX11_partOf_41 : decode cX11_partOf 41 = .ok (.aload_n 0, 1) := by decide +kernel
theorem dX11_partOf_42 : decode cX11_partOf 42 = .ok (.dup, 1) := by decide +kernel
theorem dX11_partOf_43 : decode cX11_partOf 43 = .ok (.getfield 263, 3) := by decide +kernel
theorem dX11_partOf_46 : decode cX11_partOf 46 = .ok (.iconst 1, 1) := by decide +kernel
theorem dX11_partOf_47 : decode cX11_partOf 47 = .ok (.iadd, 1) := by decide +kernel
theorem dX11_partOf_48 : decode cX11_partOf 48 = .ok (.putfield 263, 3) := by decide +kernel
theorem dX11_partOf_51 : decode cX11_partOf 51 = .ok (.aload_n 0, 1) := by decide +kernel
theorem dX11_partOf_52 : decode cX11_partOf 52 = .ok (.getfield 293, 3) := by decide +kernel
theorem dX11_partOf_55 : decode cX11_partOf 55 = .ok (.ifCond .eq 39, 3) := by decide +kernel
theorem dX11_partOf_58 : decode cX11_partOf 58 = .ok (.iload_n 2, 1) := by decide +kernel
theorem dX11_partOf_59 : decode cX11_partOf 59 = .ok (.bipush 13, 2) := by decide +kernel
theorem dX11_partOf_61 : decode cX11_partOf 61 = .ok (.if_icmp .eq 9, 3) := by decide +kernel
theorem dX11_partOf_64 : decode cX11_partOf 64 = .ok (.iload_n 2, 1) := by decide +kernel
theorem dX11_partOf_65 : decode cX11_partOf 65 = .ok (.bipush 19, 2) := by decide +kernel
theorem dX11_partOf_67 : decode cX11_partOf 67 = .ok (.if_icmp .ne 27, 3) := by decide +kernel
theorem dX11_partOf_70 : decode cX11_partOf 70 = .ok (.aload_n 0, 1) := by decide +kernel
theorem dX11_partOf_71 : decode cX11_partOf 71 = .ok (.getfield 28, 3) := by decide +kernel
theorem dX11_partOf_74 : decode cX11_partOf 74 = .ok (.sipush 2856, 3) := by decide +kernel
theorem dX11_partOf_77 : decode cX11_partOf 77 = .ok (.aload_n 0, 1) := by decide +kernel
theorem dX11_partOf_78 : decode cX11_partOf 78 = .ok (.getfield 263, 3) := by decide +kernel
theorem dX11_partOf_81 : decode cX11_partOf 81 = .ok (.iadd, 1) := by decide +kernel
theorem dX11_partOf_82 : decode cX11_partOf 82 = .ok (.iaload, 1) := by decide +kernel
theorem dX11_partOf_83 : decode cX11_partOf 83 = .ok (.istore_n 3, 1) := by decide +kernel
theorem dX11_partOf_84 : decode cX11_partOf 84 = .ok (.aload_n 0, 1) := by decide +kernel
theorem dX11_partOf_85 : decode cX11_partOf 85 = .ok (.dup, 1) := by decide +kernel
theorem dX11_partOf_86 : decode cX11_partOf 86 = .ok (.getfield 263, 3) := by decide +kernel
theorem dX11_partOf_89 : decode cX11_partOf 89 = .ok (.iconst 1, 1) := by decide +kernel
theorem dX11_partOf_90 : decode cX11_partOf 90 = .ok (.iadd, 1) := by decide +kernel
theorem dX11_partOf_91 : decode cX11_partOf 91 = .ok (.putfield 263, 3) := by decide +kernel
theorem dX11_partOf_94 : decode cX11_partOf 94 = .ok (.iload_n 1, 1) := by decide +kernel
theorem dX11_partOf_95 : decode cX11_partOf 95 = .ok (.ifCond .eq 10, 3) := by decide +kernel
theorem dX11_partOf_98 : decode cX11_partOf 98 = .ok (.aload_n 0, 1) := by decide +kernel
theorem dX11_partOf_99 : decode cX11_partOf 99 = .ok (.getfield 273, 3) := by decide +kernel
theorem dX11_partOf_102 : decode cX11_partOf 102 = .ok (.ifCond .eq 5, 3) := by decide +kernel
theorem dX11_partOf_105 : decode cX11_partOf 105 = .ok (.lconst 0, 1) := by decide +kernel
theorem dX11_partOf_106 : decode cX11_partOf 106 = .ok (.lreturn, 1) := by decide +kernel
theorem dX11_partOf_107 : decode cX11_partOf 107 = .ok (.iload_n 2, 1) := by decide +kernel
theorem dX11_partOf_108 : decode cX11_partOf 108 = .ok (.bipush 50, 2) := by decide +kernel
theorem dX11_partOf_110 : decode cX11_partOf 110 = .ok (.if_icmp .ne 20, 3) := by decide +kernel
theorem dX11_partOf_113 : decode cX11_partOf 113 = .ok (.aload_n 0, 1) := by decide +kernel
theorem dX11_partOf_114 : decode cX11_partOf 114 = .ok (.getfield 28, 3) := by decide +kernel
theorem dX11_partOf_117 : decode cX11_partOf 117 = .ok (.sipush 2856, 3) := by decide +kernel
theorem dX11_partOf_120 : decode cX11_partOf 120 = .ok (.aload_n 0, 1) := by decide +kernel
theorem dX11_partOf_121 : decode cX11_partOf 121 = .ok (.getfield 263, 3) := by decide +kernel
theorem dX11_partOf_124 : decode cX11_partOf 124 = .ok (.iadd, 1) := by decide +kernel
theorem dX11_partOf_125 : decode cX11_partOf 125 = .ok (.iconst 1, 1) := by decide +kernel
theorem dX11_partOf_126 : decode cX11_partOf 126 = .ok (.isub, 1) := by decide +kernel
theorem dX11_partOf_127 : decode cX11_partOf 127 = .ok (.iaload, 1) := by decide +kernel
theorem dX11_partOf_128 : decode cX11_partOf 128 = .ok (.i2l, 1) := by decide +kernel
theorem dX11_partOf_129 : decode cX11_partOf 129 = .ok (.lreturn, 1) := by decide +kernel
theorem dX11_partOf_130 : decode cX11_partOf 130 = .ok (.aload_n 0, 1) := by decide +kernel
theorem dX11_partOf_131 : decode cX11_partOf 131 = .ok (.getfield 293, 3) := by decide +kernel
theorem dX11_partOf_134 : decode cX11_partOf 134 = .ok (.ifCond .eq 13, 3) := by decide +kernel
theorem dX11_partOf_137 : decode cX11_partOf 137 = .ok (.aload_n 0, 1) := by decide +kernel
theorem dX11_partOf_138 : decode cX11_partOf 138 = .ok (.iload_n 2, 1) := by decide +kernel
theorem dX11_partOf_139 : decode cX11_partOf 139 = .ok (.iload_n 3, 1) := by decide +kernel
theorem dX11_partOf_140 : decode cX11_partOf 140 = .ok (.invokevirtual 296, 3) := by decide +kernel
theorem dX11_partOf_143 : decode cX11_partOf 143 = .ok (.i2l, 1) := by decide +kernel
theorem dX11_partOf_144 : decode cX11_partOf 144 = .ok (.goto 13, 3) := by decide +kernel
theorem dX11_partOf_147 : decode cX11_partOf 147 = .ok (.aload_n 0, 1) := by decide +kernel
theorem dX11_partOf_148 : decode cX11_partOf 148 = .ok (.getfield 63, 3) := by decide +kernel
theorem dX11_partOf_151 : decode cX11_partOf 151 = .ok (.iload_n 2, 1) := by decide +kernel
theorem dX11_partOf_152 : decode cX11_partOf 152 = .ok (.bipush 8, 2) := by decide +kernel
theorem dX11_partOf_154 : decode cX11_partOf 154 = .ok (.isub, 1) := by decide +kernel
theorem dX11_partOf_155 : decode cX11_partOf 155 = .ok (.iaload, 1) := by decide +kernel
theorem dX11_partOf_156 : decode cX11_partOf 156 = .ok (.i2l, 1) := by decide +kernel
theorem dX11_partOf_157 : decode cX11_partOf 157 = .ok (.lreturn, 1) := by decide +kernel
theorem dX11_pinMany_0 : decode cX11_pinMany 0 = .ok (.iconst 0, 1) := by decide +kernel
theorem dX11_pinMany_1 : decode cX11_pinMany 1 = .ok (.istore_n 1, 1) := by decide +kernel
theorem dX11_pinMany_2 : decode cX11_pinMany 2 = .ok (.iconst 0, 1) := by decide +kernel
theorem dX11_pinMany_3 : decode cX11_pinMany 3 = .ok (.istore_n 2, 1) := by decide +kernel
theorem dX11_pinMany_4 : decode cX11_pinMany 4 = .ok (.iload_n 2, 1) := by decide +kernel
theorem dX11_pinMany_5 : decode cX11_pinMany 5 = .ok (.aload_n 0, 1) := by decide +kernel
theorem dX11_pinMany_6 : decode cX11_pinMany 6 = .ok (.invokevirtual 112, 3) := by decide +kernel
theorem dX11_pinMany_9 : decode cX11_pinMany 9 = .ok (.if_icmp .ge 23, 3) := by decide +kernel
theorem dX11_pinMany_12 : decode cX11_pinMany 12 = .ok (.iload_n 1, 1) := by decide +kernel
theorem dX11_pinMany_13 : decode cX11_pinMany 13 = .ok (.aload_n 0, 1) := by decide +kernel
theorem dX11_pinMany_14 : decode cX11_pinMany 14 = .ok (.getfield 28, 3) := by decide +kernel
theorem dX11_pinMany_17 : decode cX11_pinMany 17 = .ok (.iconst 0, 1) := by decide +kernel
theorem dX11_pinMany_18 : decode cX11_pinMany 18 = .ok (.iload_n 2, 1) := by decide +kernel
theorem dX11_pinMany_19 : decode cX11_pinMany 19 = .ok (.iadd, 1) := by decide +kernel
theorem dX11_pinMany_20 : decode cX11_pinMany 20 = .ok (.iaload, 1) := by decide +kernel
theorem dX11_pinMany_21 : decode cX11_pinMany 21 = .ok (.invokestatic 299, 3) := by decide +kernel
theorem dX11_pinMany_24 : decode cX11_pinMany 24 = .ok (.iadd, 1) := by decide +kernel
theorem dX11_pinMany_25 : decode cX11_pinMany 25 = .ok (.istore_n 1, 1) := by decide +kernel
theorem dX11_pinMany_26 : decode cX11_pinMany 26 = .ok (.iinc 2 1, 3) := by decide +kernel
theorem dX11_pinMany_29 : decode cX11_pinMany 29 = .ok (.goto (-25), 3) := by decide +kernel
theorem dX11_pinMany_32 : decode cX11_pinMany 32 = .ok (.iload_n 1, 1) := by decide +kernel
theorem dX11_pinMany_33 : decode cX11_pinMany 33 = .ok (.ireturn, 1) := by decide +kernel
theorem dX11_orderValue_0 : decode cX11_orderValue 0 = .ok (.iload_n 1, 1) := by decide +kernel
theorem dX11_orderValue_1 : decode cX11_orderValue 1 = .ok (.tableswitch 112 13 19 #[43, 89, 97, 102, 107, 112, 67], 43) := by decide +kernel
theorem dX11_orderValue_44 : decode cX11_orderValue 44 = .ok (.aload_n 0, 1) := by decide +kernel
theorem dX11_orderValue_45 : decode cX11_orderValue 45 = .ok (.iload_n 2, 1) := by decide +kernel
theorem dX11_orderValue_46 : decode cX11_orderValue 46 = .ok (.invokevirtual 128, 3) := by decide +kernel
theorem dX11_orderValue_49 : decode cX11_orderValue 49 = .ok (.ifCond .eq 17, 3) := by decide +kernel
theorem dX11_orderValue_52 : decode cX11_orderValue 52 = .ok (.aload_n 0, 1) := by decide +kernel
theorem dX11_orderValue_53 : decode cX11_orderValue 53 = .ok (.getfield 28, 3) := by decide +kernel
theorem dX11_orderValue_56 : decode cX11_orderValue 56 = .ok (.iconst 0, 1) := by decide +kernel
theorem dX11_orderValue_57 : decode cX11_orderValue 57 = .ok (.iload_n 2, 1) := by decide +kernel
theorem dX11_orderValue_58 : decode cX11_orderValue 58 = .ok (.iadd, 1) := by decide +kernel
theorem dX11_orderValue_59 : decode cX11_orderValue 59 = .ok (.iaload, 1) := by decide +kernel
theorem dX11_orderValue_60 : decode cX11_orderValue 60 = .ok (.invokestatic 299, 3) := by decide +kernel
theorem dX11_orderValue_63 : decode cX11_orderValue 63 = .ok (.goto 4, 3) := by decide +kernel
theorem dX11_orderValue_66 : decode cX11_orderValue 66 = .ok (.iconst (-1), 1) := by decide +kernel
theorem dX11_orderValue_67 : decode cX11_orderValue 67 = .ok (.ireturn, 1) := by decide +kernel
theorem dX11_orderValue_68 : decode cX11_orderValue 68 = .ok (.aload_n 0, 1) := by decide +kernel
theorem dX11_orderValue_69 : decode cX11_orderValue 69 = .ok (.iload_n 2, 1) := by decide +kernel
theorem dX11_orderValue_70 : decode cX11_orderValue 70 = .ok (.invokevirtual 128, 3) := by decide +kernel
theorem dX11_orderValue_73 : decode cX11_orderValue 73 = .ok (.ifCond .eq 15, 3) := by decide +kernel
theorem dX11_orderValue_76 : decode cX11_orderValue 76 = .ok (.aload_n 0, 1) := by decide +kernel
theorem dX11_orderValue_77 : decode cX11_orderValue 77 = .ok (.getfield 28, 3) := by decide +kernel
theorem dX11_orderValue_80 : decode cX11_orderValue 80 = .ok (.bipush 6, 2) := by decide +kernel
theorem dX11_orderValue_82 : decode cX11_orderValue 82 = .ok (.iload_n 2, 1) := by decide +kernel
theorem dX11_orderValue_83 : decode cX11_orderValue 83 = .ok (.iadd, 1) := by decide +kernel
theorem dX11_orderValue_84 : decode cX11_orderValue 84 = .ok (.iaload, 1) := by decide +kernel
theorem dX11_orderValue_85 : decode cX11_orderValue 85 = .ok (.goto 4, 3) := by decide +kernel
theorem dX11_orderValue_88 : decode cX11_orderValue 88 = .ok (.iconst (-1), 1) := by decide +kernel
theorem dX11_orderValue_89 : decode cX11_orderValue 89 = .ok (.ireturn, 1) := by decide +kernel
theorem dX11_orderValue_90 : decode cX11_orderValue 90 = .ok (.aload_n 0, 1) := by decide +kernel
theorem dX11_orderValue_91 : decode cX11_orderValue 91 = .ok (.getfield 28, 3) := by decide +kernel
theorem dX11_orderValue_94 : decode cX11_orderValue 94 = .ok (.bipush 18, 2) := by decide +kernel
theorem dX11_orderValue_96 : decode cX11_orderValue 96 = .ok (.iaload, 1) := by decide +kernel
theorem dX11_orderValue_97 : decode cX11_orderValue 97 = .ok (.ireturn, 1) := by decide +kernel
theorem dX11_orderValue_98 : decode cX11_orderValue 98 = .ok (.aload_n 0, 1) := by decide +kernel
theorem dX11_orderValue_99 : decode cX11_orderValue 99 = .ok (.getfield 302, 3) := by decide +kernel
theorem dX11_orderValue_102 : decode cX11_orderValue 102 = .ok (.ireturn, 1) := by decide +kernel
theorem dX11_orderValue_103 : decode cX11_orderValue 103 = .ok (.aload_n 0, 1) := by decide +kernel
theorem dX11_orderValue_104 : decode cX11_orderValue 104 = .ok (.getfield 305, 3) := by decide +kernel
theorem dX11_orderValue_107 : decode cX11_orderValue 107 = .ok (.ireturn, 1) := by decide +kernel
theorem dX11_orderValue_108 : decode cX11_orderValue 108 = .ok (.aload_n 0, 1) := by decide +kernel
theorem dX11_orderValue_109 : decode cX11_orderValue 109 = .ok (.getfield 308, 3) := by decide +kernel
theorem dX11_orderValue_112 : decode cX11_orderValue 112 = .ok (.ireturn, 1) := by decide +kernel
theorem dX11_orderValue_113 : decode cX11_orderValue 113 = .ok (.aload_n 0, 1) := by decide +kernel
theorem dX11_orderValue_114 : decode cX11_orderValue 114 = .ok (.invokevirtual 311, 3) := by decide +kernel
theorem dX11_orderValue_117 : decode cX11_orderValue 117 = .ok (.ireturn, 1) := by decide +kernel
theorem dX11_testOf_0 : decode cX11_testOf 0 = .ok (.aload_n 0, 1) := by decide +kernel
theorem dX11_testOf_1 : decode cX11_testOf 1 = .ok (.iload_n 1, 1) := by decide +kernel
theorem dX11_testOf_2 : decode cX11_testOf 2 = .ok (.invokevirtual 314, 3) := by decide +kernel
theorem dX11_testOf_5 : decode cX11_testOf 5 = .ok (.istore_n 2, 1) := by decide +kernel
theorem dX11_testOf_6 : decode cX11_testOf 6 = .ok (.aload_n 0, 1) := by decide +kernel
theorem dX11_testOf_7 : decode cX11_testOf 7 = .ok (.iconst 5, 1) := by decide +kernel
theorem dX11_testOf_8 : decode cX11_testOf 8 = .ok (.invokevirtual 287, 3) := by decide +kernel
theorem dX11_testOf_11 : decode cX11_testOf 11 = .ok (.ifCond .eq 38, 3) := by decide +kernel
theorem dX11_testOf_14 : decode cX11_testOf 14 = .ok (.aload_n 0, 1) := by decide +kernel
theorem dX11_testOf_15 : decode cX11_testOf 15 = .ok (.iload_n 1, 1) := by decide +kernel
theorem dX11_testOf_16 : decode cX11_testOf 16 = .ok (.ifCond .eq 11, 3) := by decide +kernel
theorem dX11_testOf_19 : decode cX11_testOf 19 = .ok (.iload_n 2, 1) := by decide +kernel
theorem dX11_testOf_20 : decode cX11_testOf 20 = .ok (.ifCond .ne 7, 3) := by decide +kernel
theorem dX11_testOf_23 : decode cX11_testOf 23 = .ok (.iconst 1, 1) := by decide +kernel
theorem dX11_testOf_24 : decode cX11_testOf 24 = .ok (.goto 4, 3) := by decide +kernel
theorem dX11_testOf_27 : decode cX11_testOf 27 = .ok (.iconst 0, 1) := by decide +kernel
theorem dX11_testOf_28 : decode cX11_testOf 28 = .ok (.invokevirtual 314, 3) := by decide +kernel
theorem dX11_testOf_31 : decode cX11_testOf 31 = .ok (.istore_n 3, 1) := by decide +kernel
theorem dX11_testOf_32 : decode cX11_testOf 32 = .ok (.iload_n 2, 1) := by decide +kernel
theorem dX11_testOf_33 : decode cX11_testOf 33 = .ok (.ifCond .ne 7, 3) := by decide +kernel
theorem dX11_testOf_36 : decode cX11_testOf 36 = .ok (.iload_n 3, 1) := by decide +kernel
theorem dX11_testOf_37 : decode cX11_testOf 37 = .ok (.ifCond .eq 7, 3) := by decide +kernel
theorem dX11_testOf_40 : decode cX11_testOf 40 = .ok (.iconst 1, 1) := by decide +kernel
theorem dX11_testOf_41 : decode cX11_testOf 41 = .ok (.goto 4, 3) := by decide +kernel
theorem dX11_testOf_44 : decode cX11_testOf 44 = .ok (.iconst 0, 1) := by decide +kernel
theorem dX11_testOf_45 : decode cX11_testOf 45 = .ok (.istore_n 2, 1) := by decide +kernel
theorem dX11_testOf_46 : decode cX11_testOf 46 = .ok (.goto (-40), 3) := by decide +kernel
theorem dX11_testOf_49 : decode cX11_testOf 49 = .ok (.iload_n 2, 1) := by decide +kernel
theorem dX11_testOf_50 : decode cX11_testOf 50 = .ok (.ireturn, 1) := by decide +kernel
theorem dX11_bothOf_0 : decode cX11_bothOf 0 = .ok (.aload_n 0, 1) := by decide +kernel
theorem dX11_bothOf_1 : decode cX11_bothOf 1 = .ok (.iload_n 1, 1) := by decide +kernel
theorem dX11_bothOf_2 : decode cX11_bothOf 2 = .ok (.invokevirtual 317, 3) := by decide +kernel
theorem dX11_bothOf_5 : decode cX11_bothOf 5 = .ok (.istore_n 2, 1) := by decide +kernel
theorem dX11_bothOf_6 : decode cX11_bothOf 6 = .ok (.aload_n 0, 1) := by decide +kernel
theorem dX11_bothOf_7 : decode cX11_bothOf 7 = .ok (.bipush 6, 2) := by decide +kernel
theorem dX11_bothOf_9 : decode cX11_bothOf 9 = .ok (.invokevirtual 287, 3) := by decide +kernel
theorem dX11_bothOf_12 : decode cX11_bothOf 12 = .ok (.ifCond .eq 38, 3) := by decide +kernel
theorem dX11_bothOf_15 : decode cX11_bothOf 15 = .ok (.aload_n 0, 1) := by decide +kernel
theorem dX11_bothOf_16 : decode cX11_bothOf 16 = .ok (.iload_n 1, 1) := by decide +kernel
theorem dX11_bothOf_17 : decode cX11_bothOf 17 = .ok (.ifCond .eq 11, 3) := by decide +kernel
theorem dX11_bothOf_20 : decode cX11_bothOf 20 = .ok (.iload_n 2, 1) := by decide +kernel
theorem dX11_bothOf_21 : decode cX11_bothOf 21 = .ok (.ifCond .eq 7, 3) := by decide +kernel
theorem dX11_bothOf_24 : decode cX11_bothOf 24 = .ok (.iconst 1, 1) := by decide +kernel
theorem dX11_bothOf_25 : decode cX11_bothOf 25 = .ok (.goto 4, 3) := by decide +kernel
theorem dX11_bothOf_28 : decode cX11_bothOf 28 = .ok (.iconst 0, 1) := by decide +kernel
theorem dX11_bothOf_29 : decode cX11_bothOf 29 = .ok (.invokevirtual 317, 3) := by decide +kernel
theorem dX11_bothOf_32 : decode cX11_bothOf 32 = .ok (.istore_n 3, 1) := by decide +kernel
theorem dX11_bothOf_33 : decode cX11_bothOf 33 = .ok (.iload_n 2, 1) := by decide +kernel
theorem dX11_bothOf_34 : decode cX11_bothOf 34 = .ok (.ifCond .eq 11, 3) := by decide +kernel
theorem dX11_bothOf_37 : decode cX11_bothOf 37 = .ok (.iload_n 3, 1) := by decide +kernel
theorem dX11_bothOf_38 : decode cX11_bothOf 38 = .ok (.ifCond .eq 7, 3) := by decide +kernel
theorem dX11_bothOf_41 : decode cX11_bothOf 41 = .ok (.iconst 1, 1) := by decide +kernel
theorem dX11_bothOf_42 : decode cX11_bothOf 42 = .ok (.goto 4, 3) := by decide +kernel
theorem dX11_bothOf_45 : decode cX11_bothOf 45 = .ok (.iconst 0, 1) := by decide +kernel
theorem dX11_bothOf_46 : decode cX11_bothOf 46 = .ok (.istore_n 2, 1) := by decide +kernel
theorem dX11_bothOf_47 : decode cX11_bothOf 47 = .ok (.goto (-41), 3) := by decide +kernel
theorem dX11_bothOf_50 : decode cX11_bothOf 50 = .ok (.iload_n 2, 1) := by decide +kernel
theorem dX11_bothOf_51 : decode cX11_bothOf 51 = .ok (.ireturn, 1) := by decide +kernel
theorem dX11_plainOf_0 : decode cX11_plainOf 0 = .ok (.iconst 0, 1) := by decide +kernel
theorem dX11_plainOf_1 : decode cX11_plainOf 1 = .ok (.istore_n 2, 1) := by decide +kernel
theorem dX11_plainOf_2 : decode cX11_plainOf 2 = .ok (.aload_n 0, 1) := by decide +kernel
theorem dX11_plainOf_3 : decode cX11_plainOf 3 = .ok (.bipush 7, 2) := by decide +kernel
theorem dX11_plainOf_5 : decode cX11_plainOf 5 = .ok (.invokevirtual 287, 3) := by decide +kernel
theorem dX11_plainOf_8 : decode cX11_plainOf 8 = .ok (.ifCond .eq 16, 3) := by decide +kernel
theorem dX11_plainOf_11 : decode cX11_plainOf 11 = .ok (.iload_n 2, 1) := by decide +kernel
theorem dX11_plainOf_12 : decode cX11_plainOf 12 = .ok (.ifCond .ne 7, 3) := by decide +kernel
theorem dX11_plainOf_15 : decode cX11_plainOf 15 = .ok (.iconst 1, 1) := by decide +kernel
theorem dX11_plainOf_16 : decode cX11_plainOf 16 = .ok (.goto 4, 3) := by decide +kernel
theorem dX11_plainOf_19 : decode cX11_plainOf 19 = .ok (.iconst 0, 1) := by decide +kernel
theorem dX11_plainOf_20 : decode cX11_plainOf 20 = .ok (.istore_n 2, 1) := by decide +kernel
theorem dX11_plainOf_21 : decode cX11_plainOf 21 = .ok (.goto (-19), 3) := by decide +kernel
theorem dX11_plainOf_24 : decode cX11_plainOf 24 = .ok (.aload_n 0, 1) := by decide +kernel
theorem dX11_plainOf_25 : decode cX11_plainOf 25 = .ok (.iload_n 1, 1) := by decide +kernel
theorem dX11_plainOf_26 : decode cX11_plainOf 26 = .ok (.invokevirtual 320, 3) := by decide +kernel
theorem dX11_plainOf_29 : decode cX11_plainOf 29 = .ok (.iload_n 2, 1) := by decide +kernel
theorem dX11_plainOf_30 : decode cX11_plainOf 30 = .ok (.if_icmp .eq 7, 3) := by decide +kernel
theorem dX11_plainOf_33 : decode cX11_plainOf 33 = .ok (.iconst 1, 1) := by decide +kernel
theorem dX11_plainOf_34 : decode cX11_plainOf 34 = .ok (.goto 4, 3) := by decide +kernel
theorem dX11_plainOf_37 : decode cX11_plainOf 37 = .ok (.iconst 0, 1) := by decide +kernel
theorem dX11_plainOf_38 : decode cX11_plainOf 38 = .ok (.ireturn, 1) := by decide +kernel
theorem dX11_positiveOf_0 : decode cX11_positiveOf 0 = .ok (.aload_n 0, 1) := by decide +kernel
theorem dX11_positiveOf_1 : decode cX11_positiveOf 1 = .ok (.bipush 40, 2) := by decide +kernel
theorem dX11_positiveOf_3 : decode cX11_positiveOf 3 = .ok (.invokestatic 222, 3) := by decide +kernel
theorem dX11_positiveOf_6 : decode cX11_positiveOf 6 = .ok (.invokevirtual 287, 3) := by decide +kernel
theorem dX11_positiveOf_9 : decode cX11_positiveOf 9 = .ok (.ifCond .eq 21, 3) := by decide +kernel
theorem dX11_positiveOf_12 : decode cX11_positiveOf 12 = .ok (.aload_n 0, 1) := by decide +kernel
theorem dX11_positiveOf_13 : decode cX11_positiveOf 13 = .ok (.iload_n 1, 1) := by decide +kernel
theorem dX11_positiveOf_14 : decode cX11_positiveOf 14 = .ok (.invokevirtual 323, 3) := by decide +kernel
theorem dX11_positiveOf_17 : decode cX11_positiveOf 17 = .ok (.istore_n 2, 1) := by decide +kernel
theorem dX11_positiveOf_18 : decode cX11_positiveOf 18 = .ok (.aload_n 0, 1) := by decide +kernel
theorem dX11_positiveOf_19 : decode cX11_positiveOf 19 = .ok (.dup, 1) := by decide +kernel
theorem dX11_positiveOf_20 : decode cX11_positiveOf 20 = .ok (.getfield 263, 3) := by decide +kernel
theorem dX11_positiveOf_23 : decode cX11_positiveOf 23 = .ok (.iconst 1, 1) := by decide +kernel
theorem dX11_positiveOf_24 : decode cX11_positiveOf 24 = .ok (.iadd, 1) := by decide +kernel
theorem dX11_positiveOf_25 : decode cX11_positiveOf 25 = .ok (.putfield 263, 3) := by decide +kernel
theorem dX11_positiveOf_28 : decode cX11_positiveOf 28 = .ok (.iload_n 2, 1) := by decide +kernel
theorem dX11_positiveOf_29 : decode cX11_positiveOf 29 = .ok (.ireturn, 1) := by decide +kernel
theorem dX11_positiveOf_30 : decode cX11_positiveOf 30 = .ok (.aload_n 0, 1) := by decide +kernel
theorem dX11_positiveOf_31 : decode cX11_positiveOf 31 = .ok (.iload_n 1, 1) := by decide +kernel
theorem dX11_positiveOf_32 : decode cX11_positiveOf 32 = .ok (.invokevirtual 290, 3) := by decide +kernel
theorem dX11_positiveOf_35 : decode cX11_positiveOf 35 = .ok (.lstore_n 2, 1) := by decide +kernel
theorem dX11_positiveOf_36 : decode cX11_positiveOf 36 = .ok (.aload_n 0, 1) := by decide +kernel
theorem dX11_positiveOf_37 : decode cX11_positiveOf 37 = .ok (.aload_n 0, 1) := by decide +kernel
theorem dX11_positiveOf_38 : decode cX11_positiveOf 38 = .ok (.getfield 263, 3) := by decide +kernel
theorem dX11_positiveOf_41 : decode cX11_positiveOf 41 = .ok (.invokevirtual 266, 3) := by decide +kernel
theorem dX11_positiveOf_44 : decode cX11_positiveOf 44 = .ok (.istore 4, 2) := by decide +kernel
theorem dX11_positiveOf_46 : decode cX11_positiveOf 46 = .ok (.aload_n 0, 1) := by decide +kernel
theorem dX11_positiveOf_47 : decode cX11_positiveOf 47 = .ok (.dup, 1) := by decide +kernel
theorem dX11_positiveOf_48 : decode cX11_positiveOf 48 = .ok (.getfield 263, 3) := by decide +kernel
theorem dX11_positiveOf_51 : decode cX11_positiveOf 51 = .ok (.iconst 1, 1) := by decide +kernel
theorem dX11_positiveOf_52 : decode cX11_positiveOf 52 = .ok (.iadd, 1) := by decide +kernel
theorem dX11_positiveOf_53 : decode cX11_positiveOf 53 = .ok (.putfield 263, 3) := by decide +kernel
theorem dX11_positiveOf_56 : decode cX11_positiveOf 56 = .ok (.aload_n 0, 1) := by decide +kernel
theorem dX11_positiveOf_57 : decode cX11_positiveOf 57 = .ok (.iload_n 1, 1) := by decide +kernel
theorem dX11_positiveOf_58 : decode cX11_positiveOf 58 = .ok (.invokevirtual 290, 3) := by decide +kernel
theorem dX11_positiveOf_61 : decode cX11_positiveOf 61 = .ok (.lstore 5, 2) := by decide +kernel
theorem dX11_positiveOf_63 : decode cX11_positiveOf 63 = .ok (.iload_n 1, 1) := by decide +kernel
theorem dX11_positiveOf_64 : decode cX11_positiveOf 64 = .ok (.ifCond .eq 61, 3) := by decide +kernel
theorem dX11_positiveOf_67 : decode cX11_positiveOf 67 = .ok (.aload_n 0, 1) := by decide +kernel
theorem dX11_positiveOf_68 : decode cX11_positiveOf 68 = .ok (.getfield 273, 3) := by decide +kernel
theorem dX11_positiveOf_71 : decode cX11_positiveOf 71 = .ok (.ifCond .ne 54, 3) := by decide +kernel
theorem dX11_positiveOf_74 : decode cX11_positiveOf 74 = .ok (.iload 4, 2) := by decide +kernel
theorem dX11_positiveOf_76 : decode cX11_positiveOf 76 = .ok (.bipush 60, 2) := by decide +kernel
theorem dX11_positiveOf_78 : decode cX11_positiveOf 78 = .ok (.invokestatic 222, 3) := by decide +kernel
theorem dX11_positiveOf_81 : decode cX11_positiveOf 81 = .ok (.if_icmp .ne 13, 3) := by decide +kernel
theorem dX11_positiveOf_84 : decode cX11_positiveOf 84 = .ok (.lload_n 2, 1) := by decide +kernel
theorem dX11_positiveOf_85 : decode cX11_positiveOf 85 = .ok (.lload 5, 2) := by decide +kernel
theorem dX11_positiveOf_87 : decode cX11_positiveOf 87 = .ok (.lcmp, 1) := by decide +kernel
theorem dX11_positiveOf_88 : decode cX11_positiveOf 88 = .ok (.ifCond .ge 37, 3) := by decide +kernel
theorem dX11_positiveOf_91 : decode cX11_positiveOf 91 = .ok (.goto 30, 3) := by decide +kernel
theorem dX11_positiveOf_94 : decode cX11_positiveOf 94 = .ok (.iload 4, 2) := by decide +kernel
theorem dX11_positiveOf_96 : decode cX11_positiveOf 96 = .ok (.bipush 62, 2) := by decide +kernel
theorem dX11_positiveOf_98 : decode cX11_positiveOf 98 = .ok (.invokestatic 222, 3) := by decide +kernel
theorem dX11_positiveOf_101 : decode cX11_positiveOf 101 = .ok (.if_icmp .ne 13, 3) := by decide +kernel
theorem dX11_positiveOf_104 : decode cX11_positiveOf 104 = .ok (.lload_n 2, 1) := by decide +kernel
theorem dX11_positiveOf_105 : decode cX11_positiveOf 105 = .ok (.lload 5, 2) := by decide +kernel
theorem dX11_positiveOf_107 : decode cX11_positiveOf 107 = .ok (.lcmp, 1) := by decide +kernel
theorem dX11_positiveOf_108 : decode cX11_positiveOf 108 = .ok (.ifCond .le 17, 3) := by decide +kernel
theorem dX11_positiveOf_111 : decode cX11_positiveOf 111 = .ok (.goto 10, 3) := by decide +kernel
theorem dX11_positiveOf_114 : decode cX11_positiveOf 114 = .ok (.lload_n 2, 1) := by decide +kernel
theorem dX11_positiveOf_115 : decode cX11_positiveOf 115 = .ok (.lload 5, 2) := by decide +kernel
theorem dX11_positiveOf_117 : decode cX11_positiveOf 117 = .ok (.lcmp, 1) := by decide +kernel
theorem dX11_positiveOf_118 : decode cX11_positiveOf 118 = .ok (.ifCond .ne 7, 3) := by decide +kernel
theorem dX11_positiveOf_121 : decode cX11_positiveOf 121 = .ok (.iconst 1, 1) := by decide +kernel
theorem dX11_positiveOf_122 : decode cX11_positiveOf 122 = .ok (.goto 4, 3) := by decide +kernel
theorem dX11_positiveOf_125 : decode cX11_positiveOf 125 = .ok (.iconst 0, 1) := by decide +kernel
theorem dX11_positiveOf_126 : decode cX11_positiveOf 126 = .ok (.ireturn, 1) := by decide +kernel
theorem dX11_setsAsked_0 : decode cX11_setsAsked 0 = .ok (.aload_n 0, 1) := by decide +kernel
theorem dX11_setsAsked_1 : decode cX11_setsAsked 1 = .ok (.getfield 63, 3) := by decide +kernel
theorem dX11_setsAsked_4 : decode cX11_setsAsked 4 = .ok (.iconst 0, 1) := by decide +kernel
theorem dX11_setsAsked_5 : decode cX11_setsAsked 5 = .ok (.iload_n 1, 1) := by decide +kernel
theorem dX11_setsAsked_6 : decode cX11_setsAsked 6 = .ok (.iastore, 1) := by decide +kernel
theorem dX11_setsAsked_7 : decode cX11_setsAsked 7 = .ok (.aload_n 0, 1) := by decide +kernel
theorem dX11_setsAsked_8 : decode cX11_setsAsked 8 = .ok (.getfield 63, 3) := by decide +kernel
theorem dX11_setsAsked_11 : decode cX11_setsAsked 11 = .ok (.iconst 1, 1) := by decide +kernel
theorem dX11_setsAsked_12 : decode cX11_setsAsked 12 = .ok (.aload_n 0, 1) := by decide +kernel
theorem dX11_setsAsked_13 : decode cX11_setsAsked 13 = .ok (.getfield 28, 3) := by decide +kernel
theorem dX11_setsAsked_16 : decode cX11_setsAsked 16 = .ok (.bipush 19, 2) := by decide +kernel
theorem dX11_setsAsked_18 : decode cX11_setsAsked 18 = .ok (.iload_n 1, 1) := by decide +kernel
theorem dX11_setsAsked_19 : decode cX11_setsAsked 19 = .ok (.iadd, 1) := by decide +kernel
theorem dX11_setsAsked_20 : decode cX11_setsAsked 20 = .ok (.iaload, 1) := by decide +kernel
theorem dX11_setsAsked_21 : decode cX11_setsAsked 21 = .ok (.iastore, 1) := by decide +kernel
theorem dX11_setsAsked_22 : decode cX11_setsAsked 22 = .ok (.aload_n 0, 1) := by decide +kernel
theorem dX11_setsAsked_23 : decode cX11_setsAsked 23 = .ok (.getfield 63, 3) := by decide +kernel
theorem dX11_setsAsked_26 : decode cX11_setsAsked 26 = .ok (.iconst 2, 1) := by decide +kernel
theorem dX11_setsAsked_27 : decode cX11_setsAsked 27 = .ok (.aload_n 0, 1) := by decide +kernel
theorem dX11_setsAsked_28 : decode cX11_setsAsked 28 = .ok (.getfield 28, 3) := by decide +kernel
theorem dX11_setsAsked_31 : decode cX11_setsAsked 31 = .ok (.bipush 25, 2) := by decide +kernel
theorem dX11_setsAsked_33 : decode cX11_setsAsked 33 = .ok (.iload_n 1, 1) := by decide +kernel
theorem dX11_setsAsked_34 : decode cX11_setsAsked 34 = .ok (.iadd, 1) := by decide +kernel
theorem dX11_setsAsked_35 : decode cX11_setsAsked 35 = .ok (.iaload, 1) := by decide +kernel
theorem dX11_setsAsked_36 : decode cX11_setsAsked 36 = .ok (.iastore, 1) := by decide +kernel
theorem dX11_setsAsked_37 : decode cX11_setsAsked 37 = .ok (.aload_n 0, 1) := by decide +kernel
theorem dX11_setsAsked_38 : decode cX11_setsAsked 38 = .ok (.getfield 63, 3) := by decide +kernel
theorem dX11_setsAsked_41 : decode cX11_setsAsked 41 = .ok (.iconst 3, 1) := by decide +kernel
theorem dX11_setsAsked_42 : decode cX11_setsAsked 42 = .ok (.iload_n 2, 1) := by decide +kernel
theorem dX11_setsAsked_43 : decode cX11_setsAsked 43 = .ok (.iastore, 1) := by decide +kernel
theorem dX11_setsAsked_44 : decode cX11_setsAsked 44 = .ok (.aload_n 0, 1) := by decide +kernel
theorem dX11_setsAsked_45 : decode cX11_setsAsked 45 = .ok (.getfield 63, 3) := by decide +kernel
theorem dX11_setsAsked_48 : decode cX11_setsAsked 48 = .ok (.iconst 4, 1) := by decide +kernel
theorem dX11_setsAsked_49 : decode cX11_setsAsked 49 = .ok (.aload_n 0, 1) := by decide +kernel
theorem dX11_setsAsked_50 : decode cX11_setsAsked 50 = .ok (.getfield 28, 3) := by decide +kernel
theorem dX11_setsAsked_53 : decode cX11_setsAsked 53 = .ok (.bipush 44, 2) := by decide +kernel
theorem dX11_setsAsked_55 : decode cX11_setsAsked 55 = .ok (.iaload, 1) := by decide +kernel
theorem dX11_setsAsked_56 : decode cX11_setsAsked 56 = .ok (.iastore, 1) := by decide +kernel
theorem dX11_setsAsked_57 : decode cX11_setsAsked 57 = .ok (.aload_n 0, 1) := by decide +kernel
theorem dX11_setsAsked_58 : decode cX11_setsAsked 58 = .ok (.getfield 63, 3) := by decide +kernel
theorem dX11_setsAsked_61 : decode cX11_setsAsked 61 = .ok (.iconst 5, 1) := by decide +kernel
theorem dX11_setsAsked_62 : decode cX11_setsAsked 62 = .ok (.aload_n 0, 1) := by decide +kernel
theorem dX11_setsAsked_63 : decode cX11_setsAsked 63 = .ok (.getfield 28, 3) := by decide +kernel
theorem dX11_setsAsked_66 : decode cX11_setsAsked 66 = .ok (.iconst 0, 1) := by decide +kernel
theorem dX11_setsAsked_67 : decode cX11_setsAsked 67 = .ok (.iload_n 1, 1) := by decide +kernel
theorem dX11_setsAsked_68 : decode cX11_setsAsked 68 = .ok (.iadd, 1) := by decide +kernel
theorem dX11_setsAsked_69 : decode cX11_setsAsked 69 = .ok (.iaload, 1) := by decide +kernel
theorem dX11_setsAsked_70 : decode cX11_setsAsked 70 = .ok (.invokestatic 299, 3) := by decide +kernel
theorem dX11_setsAsked_73 : decode cX11_setsAsked 73 = .ok (.iastore, 1) := by decide +kernel
theorem dX11_setsAsked_74 : decode cX11_setsAsked 74 = .ok (.aload_n 0, 1) := by decide +kernel
theorem dX11_setsAsked_75 : decode cX11_setsAsked 75 = .ok (.getfield 63, 3) := by decide +kernel
theorem dX11_setsAsked_78 : decode cX11_setsAsked 78 = .ok (.bipush 6, 2) := by decide +kernel
theorem dX11_setsAsked_80 : decode cX11_setsAsked 80 = .ok (.aload_n 0, 1) := by decide +kernel
theorem dX11_setsAsked_81 : decode cX11_setsAsked 81 = .ok (.getfield 28, 3) := by decide +kernel
theorem dX11_setsAsked_84 : decode cX11_setsAsked 84 = .ok (.bipush 18, 2) := by decide +kernel
theorem dX11_setsAsked_86 : decode cX11_setsAsked 86 = .ok (.iaload, 1) := by decide +kernel
theorem dX11_setsAsked_87 : decode cX11_setsAsked 87 = .ok (.iastore, 1) := by decide +kernel
theorem dX11_setsAsked_88 : decode cX11_setsAsked 88 = .ok (.return_, 1) := by decide +kernel
theorem dX11_tells_0 : decode cX11_tells 0 = .ok (.aload_n 0, 1) := by decide +kernel
theorem dX11_tells_1 : decode cX11_tells 1 = .ok (.getfield 28, 3) := by decide +kernel
theorem dX11_tells_4 : decode cX11_tells 4 = .ok (.bipush 48, 2) := by decide +kernel
theorem dX11_tells_6 : decode cX11_tells 6 = .ok (.iaload, 1) := by decide +kernel
theorem dX11_tells_7 : decode cX11_tells 7 = .ok (.iconst (-1), 1) := by decide +kernel
theorem dX11_tells_8 : decode cX11_tells 8 = .ok (.if_icmp .ne 6, 3) := by decide +kernel
theorem dX11_tells_11 : decode cX11_tells 11 = .ok (.iload 4, 2) := by decide +kernel
theorem dX11_tells_13 : decode cX11_tells 13 = .ok (.ireturn, 1) := by decide +kernel
theorem dX11_tells_14 : decode cX11_tells 14 = .ok (.aload_n 0, 1) := by decide +kernel
theorem dX11_tells_15 : decode cX11_tells 15 = .ok (.iload_n 2, 1) := by decide +kernel
theorem dX11_tells_16 : decode cX11_tells 16 = .ok (.iload_n 3, 1) := by decide +kernel
theorem dX11_tells_17 : decode cX11_tells 17 = .ok (.invokevirtual 326, 3) := by decide +kernel
theorem dX11_tells_20 : decode cX11_tells 20 = .ok (.aload_n 0, 1) := by decide +kernel
theorem dX11_tells_21 : decode cX11_tells 21 = .ok (.iconst 0, 1) := by decide +kernel
theorem dX11_tells_22 : decode cX11_tells 22 = .ok (.putfield 293, 3) := by decide +kernel
theorem dX11_tells_25 : decode cX11_tells 25 = .ok (.iload 4, 2) := by decide +kernel
theorem dX11_tells_27 : decode cX11_tells 27 = .ok (.i2l, 1) := by decide +kernel
theorem dX11_tells_28 : decode cX11_tells 28 = .ok (.lstore 5, 2) := by decide +kernel
theorem dX11_tells_30 : decode cX11_tells 30 = .ok (.aload_n 0, 1) := by decide +kernel
theorem dX11_tells_31 : decode cX11_tells 31 = .ok (.sipush 400, 3) := by decide +kernel
theorem dX11_tells_34 : decode cX11_tells 34 = .ok (.aload_n 0, 1) := by decide +kernel
theorem dX11_tells_35 : decode cX11_tells 35 = .ok (.getfield 28, 3) := by decide +kernel
theorem dX11_tells_38 : decode cX11_tells 38 = .ok (.bipush 48, 2) := by decide +kernel
theorem dX11_tells_40 : decode cX11_tells 40 = .ok (.iaload, 1) := by decide +kernel
theorem dX11_tells_41 : decode cX11_tells 41 = .ok (.imul, 1) := by decide +kernel
theorem dX11_tells_42 : decode cX11_tells 42 = .ok (.putfield 263, 3) := by decide +kernel
theorem dX11_tells_45 : decode cX11_tells 45 = .ok (.aload_n 0, 1) := by decide +kernel
theorem dX11_tells_46 : decode cX11_tells 46 = .ok (.aload_n 0, 1) := by decide +kernel
theorem dX11_tells_47 : decode cX11_tells 47 = .ok (.getfield 263, 3) := by decide +kernel
theorem dX11_tells_50 : decode cX11_tells 50 = .ok (.aload_n 0, 1) := by decide +kernel
theorem dX11_tells_51 : decode cX11_tells 51 = .ok (.getfield 28, 3) := by decide +kernel
theorem dX11_tells_54 : decode cX11_tells 54 = .ok (.bipush 49, 2) := by decide +kernel
theorem dX11_tells_56 : decode cX11_tells 56 = .ok (.aload_n 0, 1) := by decide +kernel
theorem dX11_tells_57 : decode cX11_tells 57 = .ok (.getfield 28, 3) := by decide +kernel
theorem dX11_tells_60 : decode cX11_tells 60 = .ok (.bipush 48, 2) := by decide +kernel
theorem dX11_tells_62 : decode cX11_tells 62 = .ok (.iaload, 1) := by decide +kernel
theorem dX11_tells_63 : decode cX11_tells 63 = .ok (.iadd, 1) := by decide +kernel
theorem dX11_tells_64 : decode cX11_tells 64 = .ok (.iaload, 1) := by decide +kernel
theorem dX11_tells_65 : decode cX11_tells 65 = .ok (.iadd, 1) := by decide +kernel
theorem dX11_tells_66 : decode cX11_tells 66 = .ok (.putfield 260, 3) := by decide +kernel
theorem dX11_tells_69 : decode cX11_tells 69 = .ok (.aload_n 0, 1) := by decide +kernel
theorem dX11_tells_70 : decode cX11_tells 70 = .ok (.getfield 263, 3) := by decide +kernel
theorem dX11_tells_73 : decode cX11_tells 73 = .ok (.aload_n 0, 1) := by decide +kernel
theorem dX11_tells_74 : decode cX11_tells 74 = .ok (.getfield 260, 3) := by decide +kernel
theorem dX11_tells_77 : decode cX11_tells 77 = .ok (.if_icmp .ge 145, 3) := by decide +kernel
theorem dX11_tells_80 : decode cX11_tells 80 = .ok (.aload_n 0, 1) := by decide +kernel
theorem dX11_tells_81 : decode cX11_tells 81 = .ok (.aload_n 0, 1) := by decide +kernel
theorem dX11_tells_82 : decode cX11_tells 82 = .ok (.getfield 263, 3) := by decide +kernel
theorem dX11_tells_85 : decode cX11_tells 85 = .ok (.invokevirtual 266, 3) := by decide +kernel
theorem dX11_tells_88 : decode cX11_tells 88 = .ok (.istore 7, 2) := by decide +kernel
theorem dX11_tells_90 : decode cX11_tells 90 = .ok (.aload_n 0, 1) := by decide +kernel
theorem dX11_tells_91 : decode cX11_tells 91 = .ok (.iconst 0, 1) := by decide +kernel
theorem dX11_tells_92 : decode cX11_tells 92 = .ok (.putfield 273, 3) := by decide +kernel
theorem dX11_tells_95 : decode cX11_tells 95 = .ok (.aload_n 0, 1) := by decide +kernel
theorem dX11_tells_96 : decode cX11_tells 96 = .ok (.dup, 1) := by decide +kernel
theorem dX11_tells_97 : decode cX11_tells 97 = .ok (.getfield 263, 3) := by decide +kernel
theorem dX11_tells_100 : decode cX11_tells 100 = .ok (.iconst 1, 1) := by decide +kernel
theorem dX11_tells_101 : decode cX11_tells 101 = .ok (.iadd, 1) := by decide +kernel
theorem dX11_tells_102 : decode cX11_tells 102 = .ok (.putfield 263, 3) := by decide +kernel
theorem dX11_tells_105 : decode cX11_tells 105 = .ok (.iload 7, 2) := by decide +kernel
theorem dX11_tells_107 : decode cX11_tells 107 = .ok (.iconst 1, 1) := by decide +kernel
theorem dX11_tells_108 : decode cX11_tells 108 = .ok (.if_icmp .ne 11, 3) := by decide +kernel
theorem dX11_tells_111 : decode cX11_tells 111 = .ok (.aload_n 0, 1) := by decide +kernel
theorem dX11_tells_112 : decode cX11_tells 112 = .ok (.iconst 1, 1) := by decide +kernel
theorem dX11_tells_113 : decode cX11_tells 113 = .ok (.invokevirtual 290, 3) := by decide +kernel
theorem dX11_tells_116 : decode cX11_tells 116 = .ok (.goto 4, 3) := by decide +kernel
theorem dX11_tells_119 : decode cX11_tells 119 = .ok (.lconst 1, 1) := by decide +kernel
theorem dX11_tells_120 : decode cX11_tells 120 = .ok (.lstore 8, 2) := by decide +kernel
theorem dX11_tells_122 : decode cX11_tells 122 = .ok (.aload_n 0, 1) := by decide +kernel
theorem dX11_tells_123 : decode cX11_tells 123 = .ok (.getfield 273, 3) := by decide +kernel
theorem dX11_tells_126 : decode cX11_tells 126 = .ok (.istore 10, 2) := by decide +kernel
theorem dX11_tells_128 : decode cX11_tells 128 = .ok (.aload_n 0, 1) := by decide +kernel
theorem dX11_tells_129 : decode cX11_tells 129 = .ok (.iconst 0, 1) := by decide +kernel
theorem dX11_tells_130 : decode cX11_tells 130 = .ok (.putfield 273, 3) := by decide +kernel
theorem dX11_tells_133 : decode cX11_tells 133 = .ok (.aload_n 0, 1) := by decide +kernel
theorem dX11_tells_134 : decode cX11_tells 134 = .ok (.iconst 4, 1) := by decide +kernel
theorem dX11_tells_135 : decode cX11_tells 135 = .ok (.invokevirtual 287, 3) := by decide +kernel
theorem dX11_tells_138 : decode cX11_tells 138 = .ok (.ifCond .eq 11, 3) := by decide +kernel
theorem dX11_tells_141 : decode cX11_tells 141 = .ok (.aload_n 0, 1) := by decide +kernel
theorem dX11_tells_142 : decode cX11_tells 142 = .ok (.iconst 1, 1) := by decide +kernel
theorem dX11_tells_143 : decode cX11_tells 143 = .ok (.invokevirtual 323, 3) := by decide +kernel
theorem dX11_tells_146 : decode cX11_tells 146 = .ok (.ifCond .eq 7, 3) := by decide +kernel
theorem dX11_tells_149 : decode cX11_tells 149 = .ok (.iconst 1, 1) := by decide +kernel
theorem dX11_tells_150 : decode cX11_tells 150 = .ok (.goto 4, 3) := by decide +kernel
theorem dX11_tells_153 : decode cX11_tells 153 = .ok (.iconst 0, 1) := by decide +kernel
theorem dX11_tells_154 : decode cX11_tells 154 = .ok (.istore 11, 2) := by decide +kernel
theorem dX11_tells_156 : decode cX11_tells 156 = .ok (.iload 7, 2) := by decide +kernel
theorem dX11_tells_158 : decode cX11_tells 158 = .ok (.iload_n 1, 1) := by decide +kernel
theorem dX11_tells_159 : decode cX11_tells 159 = .ok (.if_icmp .ne 50, 3) := by decide +kernel
theorem dX11_tells_162 : decode cX11_tells 162 = .ok (.iload 11, 2) := by decide +kernel
theorem dX11_tells_164 : decode cX11_tells 164 = .ok (.ifCond .eq 45, 3) := by decide +kernel
theorem dX11_tells_167 : decode cX11_tells 167 = .ok (.aload_n 0, 1) := by decide +kernel
theorem dX11_tells_168 : decode cX11_tells 168 = .ok (.getfield 273, 3) := by decide +kernel
theorem dX11_tells_171 : decode cX11_tells 171 = .ok (.ifCond .ne 38, 3) := by decide +kernel
theorem dX11_tells_174 : decode cX11_tells 174 = .ok (.iload 10, 2) := by decide +kernel
theorem dX11_tells_176 : decode cX11_tells 176 = .ok (.ifCond .ne 33, 3) := by decide +kernel
theorem dX11_tells_179 : decode cX11_tells 179 = .ok (.lload 8, 2) := by decide +kernel
theorem dX11_tells_181 : decode cX11_tells 181 = .ok (.lconst 0, 1) := by decide +kernel
theorem dX11_tells_182 : decode cX11_tells 182 = .ok (.lcmp, 1) := by decide +kernel
theorem dX11_tells_183 : decode cX11_tells 183 = .ok (.ifCond .ge 7, 3) := by decide +kernel
theorem dX11_tells_186 : decode cX11_tells 186 = .ok (.lconst 0, 1) := by decide +kernel
theorem dX11_tells_187 : decode cX11_tells 187 = .ok (.goto 20, 3) := by decide +kernel
theorem dX11_tells_190 : decode cX11_tells 190 = .ok (.lload 8, 2) := by decide +kernel
theorem dX11_tells_192 : decode cX11_tells 192 = .ok (.ldc2_w 329, 3) := by decide +kernel
theorem dX11_tells_195 : decode cX11_tells 195 = .ok (.lcmp, 1) := by decide +kernel
theorem dX11_tells_196 : decode cX11_tells 196 = .ok (.ifCond .le 9, 3) := by decide +kernel
theorem dX11_tells_199 : decode cX11_tells 199 = .ok (.ldc2_w 329, 3) := by decide +kernel
theorem dX11_tells_202 : decode cX11_tells 202 = .ok (.goto 5, 3) := by decide +kernel
theorem dX11_tells_205 : decode cX11_tells 205 = .ok (.lload 8, 2) := by decide +kernel
theorem dX11_tells_207 : decode cX11_tells 207 = .ok (.lstore 5, 2) := by decide +kernel
theorem dX11_tells_209 : decode cX11_tells 209 = .ok (.aload_n 0, 1) := by decide +kernel
theorem dX11_tells_210 : decode cX11_tells 210 = .ok (.dup, 1) := by decide +kernel
theorem dX11_tells_211 : decode cX11_tells 211 = .ok (.getfield 263, 3) := by decide +kernel
theorem dX11_tells_214 : decode cX11_tells 214 = .ok (.iconst 1, 1) := by decide +kernel
theorem dX11_tells_215 : decode cX11_tells 215 = .ok (.iadd, 1) := by decide +kernel
theorem dX11_tells_216 : decode cX11_tells 216 = .ok (.putfield 263, 3) := by decide +kernel
theorem dX11_tells_219 : decode cX11_tells 219 = .ok (.goto (-150), 3) := by decide +kernel
theorem dX11_tells_222 : decode cX11_tells 222 = .ok (.lload 5, 2) := by decide +kernel
theorem dX11_tells_224 : decode cX11_tells 224 = .ok (.l2i, 1) := by decide +kernel
theorem dX11_tells_225 : decode cX11_tells 225 = .ok (.ireturn, 1) := by decide +kernel
theorem dX11_soundsAt_0 : decode cX11_soundsAt 0 = .ok (.aload_n 0, 1) := by decide +kernel
theorem dX11_soundsAt_1 : decode cX11_soundsAt 1 = .ok (.iconst 1, 1) := by decide +kernel
theorem dX11_soundsAt_2 : decode cX11_soundsAt 2 = .ok (.iload_n 1, 1) := by decide +kernel
theorem dX11_soundsAt_3 : decode cX11_soundsAt 3 = .ok (.iload_n 2, 1) := by decide +kernel
theorem dX11_soundsAt_4 : decode cX11_soundsAt 4 = .ok (.iconst 1, 1) := by decide +kernel
theorem dX11_soundsAt_5 : decode cX11_soundsAt 5 = .ok (.invokevirtual 331, 3) := by decide +kernel
theorem dX11_soundsAt_8 : decode cX11_soundsAt 8 = .ok (.ireturn, 1) := by decide +kernel
theorem dX11_isNow_0 : decode cX11_isNow 0 = .ok (.aload_n 0, 1) := by decide +kernel
theorem dX11_isNow_1 : decode cX11_isNow 1 = .ok (.iload_n 1, 1) := by decide +kernel
theorem dX11_isNow_2 : decode cX11_isNow 2 = .ok (.iload_n 2, 1) := by decide +kernel
theorem dX11_isNow_3 : decode cX11_isNow 3 = .ok (.iload_n 3, 1) := by decide +kernel
theorem dX11_isNow_4 : decode cX11_isNow 4 = .ok (.iconst 0, 1) := by decide +kernel
theorem dX11_isNow_5 : decode cX11_isNow 5 = .ok (.invokevirtual 331, 3) := by decide +kernel
theorem dX11_isNow_8 : decode cX11_isNow 8 = .ok (.iconst 1, 1) := by decide +kernel
theorem dX11_isNow_9 : decode cX11_isNow 9 = .ok (.if_icmp .ne 7, 3) := by decide +kernel
theorem dX11_isNow_12 : decode cX11_isNow 12 = .ok (.iconst 1, 1) := by decide +kernel
theorem dX11_isNow_13 : decode cX11_isNow 13 = .ok (.goto 4, 3) := by decide +kernel
theorem dX11_isNow_16 : decode cX11_isNow 16 = .ok (.iconst 0, 1) := by decide +kernel
theorem dX11_isNow_17 : decode cX11_isNow 17 = .ok (.ireturn, 1) := by decide +kernel
theorem dX11_beatOf_0 : decode cX11_beatOf 0 = .ok (.aload_n 0, 1) := by decide +kernel
theorem dX11_beatOf_1 : decode cX11_beatOf 1 = .ok (.iload_n 1, 1) := by decide +kernel
theorem dX11_beatOf_2 : decode cX11_beatOf 2 = .ok (.invokevirtual 335, 3) := by decide +kernel
theorem dX11_beatOf_5 : decode cX11_beatOf 5 = .ok (.ifCond .eq 15, 3) := by decide +kernel
theorem dX11_beatOf_8 : decode cX11_beatOf 8 = .ok (.aload_n 0, 1) := by decide +kernel
theorem dX11_beatOf_9 : decode cX11_beatOf 9 = .ok (.getfield 28, 3) := by decide +kernel
theorem dX11_beatOf_12 : decode cX11_beatOf 12 = .ok (.bipush 6, 2) := by decide +kernel
theorem dX11_beatOf_14 : decode cX11_beatOf 14 = .ok (.iload_n 1, 1) := by decide +kernel
theorem dX11_beatOf_15 : decode cX11_beatOf 15 = .ok (.iadd, 1) := by decide +kernel
theorem dX11_beatOf_16 : decode cX11_beatOf 16 = .ok (.iaload, 1) := by decide +kernel
theorem dX11_beatOf_17 : decode cX11_beatOf 17 = .ok (.goto 24, 3) := by decide +kernel
theorem dX11_beatOf_20 : decode cX11_beatOf 20 = .ok (.aload_n 0, 1) := by decide +kernel
theorem dX11_beatOf_21 : decode cX11_beatOf 21 = .ok (.getfield 28, 3) := by decide +kernel
theorem dX11_beatOf_24 : decode cX11_beatOf 24 = .ok (.bipush 6, 2) := by decide +kernel
theorem dX11_beatOf_26 : decode cX11_beatOf 26 = .ok (.iload_n 1, 1) := by decide +kernel
theorem dX11_beatOf_27 : decode cX11_beatOf 27 = .ok (.iadd, 1) := by decide +kernel
theorem dX11_beatOf_28 : decode cX11_beatOf 28 = .ok (.iaload, 1) := by decide +kernel
theorem dX11_beatOf_29 : decode cX11_beatOf 29 = .ok (.iload_n 2, 1) := by decide +kernel
theorem dX11_beatOf_30 : decode cX11_beatOf 30 = .ok (.iadd, 1) := by decide +kernel
theorem dX11_beatOf_31 : decode cX11_beatOf 31 = .ok (.aload_n 0, 1) := by decide +kernel
theorem dX11_beatOf_32 : decode cX11_beatOf 32 = .ok (.getfield 28, 3) := by decide +kernel
theorem dX11_beatOf_35 : decode cX11_beatOf 35 = .ok (.bipush 19, 2) := by decide +kernel
theorem dX11_beatOf_37 : decode cX11_beatOf 37 = .ok (.iload_n 1, 1) := by decide +kernel
theorem dX11_beatOf_38 : decode cX11_beatOf 38 = .ok (.iadd, 1) := by decide +kernel
theorem dX11_beatOf_39 : decode cX11_beatOf 39 = .ok (.iaload, 1) := by decide +kernel
theorem dX11_beatOf_40 : decode cX11_beatOf 40 = .ok (.irem, 1) := by decide +kernel
theorem dX11_beatOf_41 : decode cX11_beatOf 41 = .ok (.ireturn, 1) := by decide +kernel
theorem dX11_strikes_0 : decode cX11_strikes 0 = .ok (.aload_n 0, 1) := by decide +kernel
theorem dX11_strikes_1 : decode cX11_strikes 1 = .ok (.iload_n 1, 1) := by decide +kernel
theorem dX11_strikes_2 : decode cX11_strikes 2 = .ok (.invokevirtual 335, 3) := by decide +kernel
theorem dX11_strikes_5 : decode cX11_strikes 5 = .ok (.ifCond .ne 21, 3) := by decide +kernel
theorem dX11_strikes_8 : decode cX11_strikes 8 = .ok (.aload_n 0, 1) := by decide +kernel
theorem dX11_strikes_9 : decode cX11_strikes 9 = .ok (.iload_n 1, 1) := by decide +kernel
theorem dX11_strikes_10 : decode cX11_strikes 10 = .ok (.aload_n 0, 1) := by decide +kernel
theorem dX11_strikes_11 : decode cX11_strikes 11 = .ok (.iload_n 1, 1) := by decide +kernel
theorem dX11_strikes_12 : decode cX11_strikes 12 = .ok (.iload_n 2, 1) := by decide +kernel
theorem dX11_strikes_13 : decode cX11_strikes 13 = .ok (.invokevirtual 338, 3) := by decide +kernel
theorem dX11_strikes_16 : decode cX11_strikes 16 = .ok (.invokevirtual 341, 3) := by decide +kernel
theorem dX11_strikes_19 : decode cX11_strikes 19 = .ok (.ifCond .eq 7, 3) := by decide +kernel
theorem dX11_strikes_22 : decode cX11_strikes 22 = .ok (.iconst 1, 1) := by decide +kernel
theorem dX11_strikes_23 : decode cX11_strikes 23 = .ok (.goto 4, 3) := by decide +kernel
theorem dX11_strikes_26 : decode cX11_strikes 26 = .ok (.iconst 0, 1) := by decide +kernel
theorem dX11_strikes_27 : decode cX11_strikes 27 = .ok (.ireturn, 1) := by decide +kernel
theorem dX11_loudAt_0 : decode cX11_loudAt 0 = .ok (.iconst 0, 1) := by decide +kernel
theorem dX11_loudAt_1 : decode cX11_loudAt 1 = .ok (.istore_n 2, 1) := by decide +kernel
theorem dX11_loudAt_2 : decode cX11_loudAt 2 = .ok (.iconst 0, 1) := by decide +kernel
theorem dX11_loudAt_3 : decode cX11_loudAt 3 = .ok (.istore_n 3, 1) := by decide +kernel
theorem dX11_loudAt_4 : decode cX11_loudAt 4 = .ok (.iload_n 3, 1) := by decide +kernel
theorem dX11_loudAt_5 : decode cX11_loudAt 5 = .ok (.aload_n 0, 1) := by decide +kernel
theorem dX11_loudAt_6 : decode cX11_loudAt 6 = .ok (.invokevirtual 112, 3) := by decide +kernel
theorem dX11_loudAt_9 : decode cX11_loudAt 9 = .ok (.if_icmp .ge 36, 3) := by decide +kernel
theorem dX11_loudAt_12 : decode cX11_loudAt 12 = .ok (.iload_n 2, 1) := by decide +kernel
theorem dX11_loudAt_13 : decode cX11_loudAt 13 = .ok (.aload_n 0, 1) := by decide +kernel
theorem dX11_loudAt_14 : decode cX11_loudAt 14 = .ok (.iload_n 3, 1) := by decide +kernel
theorem dX11_loudAt_15 : decode cX11_loudAt 15 = .ok (.iload_n 1, 1) := by decide +kernel
theorem dX11_loudAt_16 : decode cX11_loudAt 16 = .ok (.invokevirtual 132, 3) := by decide +kernel
theorem dX11_loudAt_19 : decode cX11_loudAt 19 = .ok (.ifCond .eq 17, 3) := by decide +kernel
theorem dX11_loudAt_22 : decode cX11_loudAt 22 = .ok (.aload_n 0, 1) := by decide +kernel
theorem dX11_loudAt_23 : decode cX11_loudAt 23 = .ok (.iload_n 3, 1) := by decide +kernel
theorem dX11_loudAt_24 : decode cX11_loudAt 24 = .ok (.aload_n 0, 1) := by decide +kernel
theorem dX11_loudAt_25 : decode cX11_loudAt 25 = .ok (.iload_n 3, 1) := by decide +kernel
theorem dX11_loudAt_26 : decode cX11_loudAt 26 = .ok (.iload_n 1, 1) := by decide +kernel
theorem dX11_loudAt_27 : decode cX11_loudAt 27 = .ok (.invokevirtual 338, 3) := by decide +kernel
theorem dX11_loudAt_30 : decode cX11_loudAt 30 = .ok (.invokevirtual 138, 3) := by decide +kernel
theorem dX11_loudAt_33 : decode cX11_loudAt 33 = .ok (.goto 4, 3) := by decide +kernel
theorem dX11_loudAt_36 : decode cX11_loudAt 36 = .ok (.iconst 0, 1) := by decide +kernel
theorem dX11_loudAt_37 : decode cX11_loudAt 37 = .ok (.iadd, 1) := by decide +kernel
theorem dX11_loudAt_38 : decode cX11_loudAt 38 = .ok (.istore_n 2, 1) := by decide +kernel
theorem dX11_loudAt_39 : decode cX11_loudAt 39 = .ok (.iinc 3 1, 3) := by decide +kernel
theorem dX11_loudAt_42 : decode cX11_loudAt 42 = .ok (.goto (-38), 3) := by decide +kernel
theorem dX11_loudAt_45 : decode cX11_loudAt 45 = .ok (.iload_n 2, 1) := by decide +kernel
theorem dX11_loudAt_46 : decode cX11_loudAt 46 = .ok (.ireturn, 1) := by decide +kernel
theorem dX11_loud_0 : decode cX11_loud 0 = .ok (.iload_n 1, 1) := by decide +kernel
theorem dX11_loud_1 : decode cX11_loud 1 = .ok (.iconst 0, 1) := by decide +kernel
theorem dX11_loud_2 : decode cX11_loud 2 = .ok (.sipush 30000, 3) := by decide +kernel
theorem dX11_loud_5 : decode cX11_loud 5 = .ok (.invokestatic 18, 3) := by decide +kernel
theorem dX11_loud_8 : decode cX11_loud 8 = .ok (.ifCond .eq 11, 3) := by decide +kernel
theorem dX11_loud_11 : decode cX11_loud 11 = .ok (.aload_n 0, 1) := by decide +kernel
theorem dX11_loud_12 : decode cX11_loud 12 = .ok (.iload_n 1, 1) := by decide +kernel
theorem dX11_loud_13 : decode cX11_loud 13 = .ok (.invokevirtual 344, 3) := by decide +kernel
theorem dX11_loud_16 : decode cX11_loud 16 = .ok (.goto 4, 3) := by decide +kernel
theorem dX11_loud_19 : decode cX11_loud 19 = .ok (.iconst (-1), 1) := by decide +kernel
theorem dX11_loud_20 : decode cX11_loud 20 = .ok (.ireturn, 1) := by decide +kernel
theorem dX11_common_0 : decode cX11_common 0 = .ok (.iload_n 0, 1) := by decide +kernel
theorem dX11_common_1 : decode cX11_common 1 = .ok (.istore_n 2, 1) := by decide +kernel
theorem dX11_common_2 : decode cX11_common 2 = .ok (.iload_n 1, 1) := by decide +kernel
theorem dX11_common_3 : decode cX11_common 3 = .ok (.istore_n 3, 1) := by decide +kernel
theorem dX11_common_4 : decode cX11_common 4 = .ok (.iload_n 3, 1) := by decide +kernel
theorem dX11_common_5 : decode cX11_common 5 = .ok (.ifCond .eq 16, 3) := by decide +kernel
theorem dX11_common_8 : decode cX11_common 8 = .ok (.iload_n 2, 1) := by decide +kernel
theorem dX11_common_9 : decode cX11_common 9 = .ok (.iload_n 3, 1) := by decide +kernel
theorem dX11_common_10 : decode cX11_common 10 = .ok (.irem, 1) := by decide +kernel
theorem dX11_common_11 : decode cX11_common 11 = .ok (.istore 4, 2) := by decide +kernel
theorem dX11_common_13 : decode cX11_common 13 = .ok (.iload_n 3, 1) := by decide +kernel
theorem dX11_common_14 : decode cX11_common 14 = .ok (.istore_n 2, 1) := by decide +kernel
theorem dX11_common_15 : decode cX11_common 15 = .ok (.iload 4, 2) := by decide +kernel
theorem dX11_common_17 : decode cX11_common 17 = .ok (.istore_n 3, 1) := by decide +kernel
theorem dX11_common_18 : decode cX11_common 18 = .ok (.goto (-14), 3) := by decide +kernel
theorem dX11_common_21 : decode cX11_common 21 = .ok (.iload_n 2, 1) := by decide +kernel
theorem dX11_common_22 : decode cX11_common 22 = .ok (.ireturn, 1) := by decide +kernel
theorem dX11_round_0 : decode cX11_round 0 = .ok (.iconst 1, 1) := by decide +kernel
theorem dX11_round_1 : decode cX11_round 1 = .ok (.istore_n 1, 1) := by decide +kernel
theorem dX11_round_2 : decode cX11_round 2 = .ok (.iconst 0, 1) := by decide +kernel
theorem dX11_round_3 : decode cX11_round 3 = .ok (.istore_n 2, 1) := by decide +kernel
theorem dX11_round_4 : decode cX11_round 4 = .ok (.iload_n 2, 1) := by decide +kernel
theorem dX11_round_5 : decode cX11_round 5 = .ok (.aload_n 0, 1) := by decide +kernel
theorem dX11_round_6 : decode cX11_round 6 = .ok (.invokevirtual 112, 3) := by decide +kernel
theorem dX11_round_9 : decode cX11_round 9 = .ok (.if_icmp .ge 47, 3) := by decide +kernel
theorem dX11_round_12 : decode cX11_round 12 = .ok (.aload_n 0, 1) := by decide +kernel
theorem dX11_round_13 : decode cX11_round 13 = .ok (.iload_n 2, 1) := by decide +kernel
theorem dX11_round_14 : decode cX11_round 14 = .ok (.invokevirtual 335, 3) := by decide +kernel
theorem dX11_round_17 : decode cX11_round 17 = .ok (.ifCond .eq 7, 3) := by decide +kernel
theorem dX11_round_20 : decode cX11_round 20 = .ok (.iload_n 1, 1) := by decide +kernel
theorem dX11_round_21 : decode cX11_round 21 = .ok (.goto 28, 3) := by decide +kernel
theorem dX11_round_24 : decode cX11_round 24 = .ok (.iload_n 1, 1) := by decide +kernel
theorem dX11_round_25 : decode cX11_round 25 = .ok (.iload_n 1, 1) := by decide +kernel
theorem dX11_round_26 : decode cX11_round 26 = .ok (.aload_n 0, 1) := by decide +kernel
theorem dX11_round_27 : decode cX11_round 27 = .ok (.getfield 28, 3) := by decide +kernel
theorem dX11_round_30 : decode cX11_round 30 = .ok (.bipush 19, 2) := by decide +kernel
theorem dX11_round_32 : decode cX11_round 32 = .ok (.iload_n 2, 1) := by decide +kernel
theorem dX11_round_33 : decode cX11_round 33 = .ok (.iadd, 1) := by decide +kernel
theorem dX11_round_34 : decode cX11_round 34 = .ok (.iaload, 1) := by decide +kernel
theorem dX11_round_35 : decode cX11_round 35 = .ok (.invokestatic 347, 3) := by decide +kernel
theorem dX11_round_38 : decode cX11_round 38 = .ok (.idiv, 1) := by decide +kernel
theorem dX11_round_39 : decode cX11_round 39 = .ok (.aload_n 0, 1) := by decide +kernel
theorem dX11_round_40 : decode cX11_round 40 = .ok (.getfield 28, 3) := by decide +kernel
theorem dX11_round_43 : decode cX11_round 43 = .ok (.bipush 19, 2) := by decide +kernel
theorem dX11_round_45 : decode cX11_round 45 = .ok (.iload_n 2, 1) := by decide +kernel
theorem dX11_round_46 : decode cX11_round 46 = .ok (.iadd, 1) := by decide +kernel
theorem dX11_round_47 : decode cX11_round 47 = .ok (.iaload, 1) := by decide +kernel
theorem dX11_round_48 : decode cX11_round 48 = .ok (.imul, 1) := by decide +kernel
theorem dX11_round_49 : decode cX11_round 49 = .ok (.istore_n 1, 1) := by decide +kernel
theorem dX11_round_50 : decode cX11_round 50 = .ok (.iinc 2 1, 3) := by decide +kernel
theorem dX11_round_53 : decode cX11_round 53 = .ok (.goto (-49), 3) := by decide +kernel
theorem dX11_round_56 : decode cX11_round 56 = .ok (.iload_n 1, 1) := by decide +kernel
theorem dX11_round_57 : decode cX11_round 57 = .ok (.ireturn, 1) := by decide +kernel
theorem dX11_canPin_0 : decode cX11_canPin 0 = .ok (.aload_n 0, 1) := by decide +kernel
theorem dX11_canPin_1 : decode cX11_canPin 1 = .ok (.iload_n 1, 1) := by decide +kernel
theorem dX11_canPin_2 : decode cX11_canPin 2 = .ok (.iload_n 2, 1) := by decide +kernel
theorem dX11_canPin_3 : decode cX11_canPin 3 = .ok (.invokevirtual 135, 3) := by decide +kernel
theorem dX11_canPin_6 : decode cX11_canPin 6 = .ok (.ifCond .eq 26, 3) := by decide +kernel
theorem dX11_canPin_9 : decode cX11_canPin 9 = .ok (.aload_n 0, 1) := by decide +kernel
theorem dX11_canPin_10 : decode cX11_canPin 10 = .ok (.iload_n 1, 1) := by decide +kernel
theorem dX11_canPin_11 : decode cX11_canPin 11 = .ok (.iload_n 2, 1) := by decide +kernel
theorem dX11_canPin_12 : decode cX11_canPin 12 = .ok (.invokevirtual 341, 3) := by decide +kernel
theorem dX11_canPin_15 : decode cX11_canPin 15 = .ok (.ifCond .ne 13, 3) := by decide +kernel
theorem dX11_canPin_18 : decode cX11_canPin 18 = .ok (.aload_n 0, 1) := by decide +kernel
theorem dX11_canPin_19 : decode cX11_canPin 19 = .ok (.iconst 3, 1) := by decide +kernel
theorem dX11_canPin_20 : decode cX11_canPin 20 = .ok (.iload_n 1, 1) := by decide +kernel
theorem dX11_canPin_21 : decode cX11_canPin 21 = .ok (.iload_n 2, 1) := by decide +kernel
theorem dX11_canPin_22 : decode cX11_canPin 22 = .ok (.invokevirtual 142, 3) := by decide +kernel
theorem dX11_canPin_25 : decode cX11_canPin 25 = .ok (.ifCond .ne 7, 3) := by decide +kernel
theorem dX11_canPin_28 : decode cX11_canPin 28 = .ok (.iconst 1, 1) := by decide +kernel
theorem dX11_canPin_29 : decode cX11_canPin 29 = .ok (.goto 4, 3) := by decide +kernel
theorem dX11_canPin_32 : decode cX11_canPin 32 = .ok (.iconst 0, 1) := by decide +kernel
theorem dX11_canPin_33 : decode cX11_canPin 33 = .ok (.ireturn, 1) := by decide +kernel
theorem dX11_turnsPin_0 : decode cX11_turnsPin 0 = .ok (.aload_n 0, 1) := by decide +kernel
theorem dX11_turnsPin_1 : decode cX11_turnsPin 1 = .ok (.getfield 28, 3) := by decide +kernel
theorem dX11_turnsPin_4 : decode cX11_turnsPin 4 = .ok (.iconst 0, 1) := by decide +kernel
theorem dX11_turnsPin_5 : decode cX11_turnsPin 5 = .ok (.iload_n 1, 1) := by decide +kernel
theorem dX11_turnsPin_6 : decode cX11_turnsPin 6 = .ok (.iadd, 1) := by decide +kernel
theorem dX11_turnsPin_7 : decode cX11_turnsPin 7 = .ok (.dup2, 1) := by decide +kernel
theorem dX11_turnsPin_8 : decode cX11_turnsPin 8 = .ok (.iaload, 1) := by decide +kernel
theorem dX11_turnsPin_9 : decode cX11_turnsPin 9 = .ok (.iconst 1, 1) := by decide +kernel
theorem dX11_turnsPin_10 : decode cX11_turnsPin 10 = .ok (.iload_n 2, 1) := by decide +kernel
theorem dX11_turnsPin_11 : decode cX11_turnsPin 11 = .ok (.ishl, 1) := by decide +kernel
theorem dX11_turnsPin_12 : decode cX11_turnsPin 12 = .ok (.ixor, 1) := by decide +kernel
theorem dX11_turnsPin_13 : decode cX11_turnsPin 13 = .ok (.iastore, 1) := by decide +kernel
theorem dX11_turnsPin_14 : decode cX11_turnsPin 14 = .ok (.return_, 1) := by decide +kernel
theorem dX11_hourPasses_0 : decode cX11_hourPasses 0 = .ok (.aload_n 0, 1) := by decide +kernel
theorem dX11_hourPasses_1 : decode cX11_hourPasses 1 = .ok (.iconst 0, 1) := by decide +kernel
theorem dX11_hourPasses_2 : decode cX11_hourPasses 2 = .ok (.invokevirtual 344, 3) := by decide +kernel
theorem dX11_hourPasses_5 : decode cX11_hourPasses 5 = .ok (.istore_n 1, 1) := by decide +kernel
theorem dX11_hourPasses_6 : decode cX11_hourPasses 6 = .ok (.iconst 0, 1) := by decide +kernel
theorem dX11_hourPasses_7 : decode cX11_hourPasses 7 = .ok (.istore_n 2, 1) := by decide +kernel
theorem dX11_hourPasses_8 : decode cX11_hourPasses 8 = .ok (.iload_n 2, 1) := by decide +kernel
theorem dX11_hourPasses_9 : decode cX11_hourPasses 9 = .ok (.aload_n 0, 1) := by decide +kernel
theorem dX11_hourPasses_10 : decode cX11_hourPasses 10 = .ok (.invokevirtual 112, 3) := by decide +kernel
theorem dX11_hourPasses_13 : decode cX11_hourPasses 13 = .ok (.if_icmp .ge 47, 3) := by decide +kernel
theorem dX11_hourPasses_16 : decode cX11_hourPasses 16 = .ok (.aload_n 0, 1) := by decide +kernel
theorem dX11_hourPasses_17 : decode cX11_hourPasses 17 = .ok (.getfield 66, 3) := by decide +kernel
theorem dX11_hourPasses_20 : decode cX11_hourPasses 20 = .ok (.iload_n 2, 1) := by decide +kernel
theorem dX11_hourPasses_21 : decode cX11_hourPasses 21 = .ok (.aload_n 0, 1) := by decide +kernel
theorem dX11_hourPasses_22 : decode cX11_hourPasses 22 = .ok (.iload_n 2, 1) := by decide +kernel
theorem dX11_hourPasses_23 : decode cX11_hourPasses 23 = .ok (.iconst 0, 1) := by decide +kernel
theorem dX11_hourPasses_24 : decode cX11_hourPasses 24 = .ok (.invokevirtual 132, 3) := by decide +kernel
theorem dX11_hourPasses_27 : decode cX11_hourPasses 27 = .ok (.ifCond .eq 25, 3) := by decide +kernel
theorem dX11_hourPasses_30 : decode cX11_hourPasses 30 = .ok (.aload_n 0, 1) := by decide +kernel
theorem dX11_hourPasses_31 : decode cX11_hourPasses 31 = .ok (.iconst 2, 1) := by decide +kernel
theorem dX11_hourPasses_32 : decode cX11_hourPasses 32 = .ok (.iload_n 2, 1) := by decide +kernel
theorem dX11_hourPasses_33 : decode cX11_hourPasses 33 = .ok (.aload_n 0, 1) := by decide +kernel
theorem dX11_hourPasses_34 : decode cX11_hourPasses 34 = .ok (.getfield 28, 3) := by decide +kernel
theorem dX11_hourPasses_37 : decode cX11_hourPasses 37 = .ok (.bipush 6, 2) := by decide +kernel
theorem dX11_hourPasses_39 : decode cX11_hourPasses 39 = .ok (.iload_n 2, 1) := by decide +kernel
theorem dX11_hourPasses_40 : decode cX11_hourPasses 40 = .ok (.iadd, 1) := by decide +kernel
theorem dX11_hourPasses_41 : decode cX11_hourPasses 41 = .ok (.iaload, 1) := by decide +kernel
theorem dX11_hourPasses_42 : decode cX11_hourPasses 42 = .ok (.invokevirtual 142, 3) := by decide +kernel
theorem dX11_hourPasses_45 : decode cX11_hourPasses 45 = .ok (.ifCond .eq 7, 3) := by decide +kernel
theorem dX11_hourPasses_48 : decode cX11_hourPasses 48 = .ok (.iconst 1, 1) := by decide +kernel
theorem dX11_hourPasses_49 : decode cX11_hourPasses 49 = .ok (.goto 4, 3) := by decide +kernel
theorem dX11_hourPasses_52 : decode cX11_hourPasses 52 = .ok (.iconst 0, 1) := by decide +kernel
theorem dX11_hourPasses_53 : decode cX11_hourPasses 53 = .ok (.bastore, 1) := by decide +kernel
theorem dX11_hourPasses_54 : decode cX11_hourPasses 54 = .ok (.iinc 2 1, 3) := by decide +kernel
theorem dX11_hourPasses_57 : decode cX11_hourPasses 57 = .ok (.goto (-49), 3) := by decide +kernel
theorem dX11_hourPasses_60 : decode cX11_hourPasses 60 = .ok (.iconst 0, 1) := by decide +kernel
theorem dX11_hourPasses_61 : decode cX11_hourPasses 61 = .ok (.istore_n 2, 1) := by decide +kernel
theorem dX11_hourPasses_62 : decode cX11_hourPasses 62 = .ok (.iload_n 2, 1) := by decide +kernel
theorem dX11_hourPasses_63 : decode cX11_hourPasses 63 = .ok (.aload_n 0, 1) := by decide +kernel
theorem dX11_hourPasses_64 : decode cX11_hourPasses 64 = .ok (.invokevirtual 112, 3) := by decide +kernel
theorem dX11_hourPasses_67 : decode cX11_hourPasses 67 = .ok (.if_icmp .ge 47, 3) := by decide +kernel
theorem dX11_hourPasses_70 : decode cX11_hourPasses 70 = .ok (.aload_n 0, 1) := by decide +kernel
theorem dX11_hourPasses_71 : decode cX11_hourPasses 71 = .ok (.getfield 66, 3) := by decide +kernel
theorem dX11_hourPasses_74 : decode cX11_hourPasses 74 = .ok (.iload_n 2, 1) := by decide +kernel
theorem dX11_hourPasses_75 : decode cX11_hourPasses 75 = .ok (.baload, 1) := by decide +kernel
theorem dX11_hourPasses_76 : decode cX11_hourPasses 76 = .ok (.ifCond .eq 17, 3) := by decide +kernel
theorem dX11_hourPasses_79 : decode cX11_hourPasses 79 = .ok (.aload_n 0, 1) := by decide +kernel
theorem dX11_hourPasses_80 : decode cX11_hourPasses 80 = .ok (.iload_n 2, 1) := by decide +kernel
theorem dX11_hourPasses_81 : decode cX11_hourPasses 81 = .ok (.aload_n 0, 1) := by decide +kernel
theorem dX11_hourPasses_82 : decode cX11_hourPasses 82 = .ok (.getfield 28, 3) := by decide +kernel
theorem dX11_hourPasses_85 : decode cX11_hourPasses 85 = .ok (.bipush 6, 2) := by decide +kernel
theorem dX11_hourPasses_87 : decode cX11_hourPasses 87 = .ok (.iload_n 2, 1) := by decide +kernel
theorem dX11_hourPasses_88 : decode cX11_hourPasses 88 = .ok (.iadd, 1) := by decide +kernel
theorem dX11_hourPasses_89 : decode cX11_hourPasses 89 = .ok (.iaload, 1) := by decide +kernel
theorem dX11_hourPasses_90 : decode cX11_hourPasses 90 = .ok (.invokevirtual 350, 3) := by decide +kernel
theorem dX11_hourPasses_93 : decode cX11_hourPasses 93 = .ok (.aload_n 0, 1) := by decide +kernel
theorem dX11_hourPasses_94 : decode cX11_hourPasses 94 = .ok (.getfield 28, 3) := by decide +kernel
theorem dX11_hourPasses_97 : decode cX11_hourPasses 97 = .ok (.bipush 6, 2) := by decide +kernel
theorem dX11_hourPasses_99 : decode cX11_hourPasses 99 = .ok (.iload_n 2, 1) := by decide +kernel
theorem dX11_hourPasses_100 : decode cX11_hourPasses 100 = .ok (.iadd, 1) := by decide +kernel
theorem dX11_hourPasses_101 : decode cX11_hourPasses 101 = .ok (.aload_n 0, 1) := by decide +kernel
theorem dX11_hourPasses_102 : decode cX11_hourPasses 102 = .ok (.iload_n 2, 1) := by decide +kernel
theorem dX11_hourPasses_103 : decode cX11_hourPasses 103 = .ok (.iconst 1, 1) := by decide +kernel
theorem dX11_hourPasses_104 : decode cX11_hourPasses 104 = .ok (.invokevirtual 338, 3) := by decide +kernel
theorem dX11_hourPasses_107 : decode cX11_hourPasses 107 = .ok (.iastore, 1) := by decide +kernel
theorem dX11_hourPasses_108 : decode cX11_hourPasses 108 = .ok (.iinc 2 1, 3) := by decide +kernel
theorem dX11_hourPasses_111 : decode cX11_hourPasses 111 = .ok (.goto (-49), 3) := by decide +kernel
theorem dX11_hourPasses_114 : decode cX11_hourPasses 114 = .ok (.aload_n 0, 1) := by decide +kernel
theorem dX11_hourPasses_115 : decode cX11_hourPasses 115 = .ok (.getfield 28, 3) := by decide +kernel
theorem dX11_hourPasses_118 : decode cX11_hourPasses 118 = .ok (.bipush 18, 2) := by decide +kernel
theorem dX11_hourPasses_120 : decode cX11_hourPasses 120 = .ok (.dup2, 1) := by decide +kernel
theorem dX11_hourPasses_121 : decode cX11_hourPasses 121 = .ok (.iaload, 1) := by decide +kernel
theorem dX11_hourPasses_122 : decode cX11_hourPasses 122 = .ok (.iconst 1, 1) := by decide +kernel
theorem dX11_hourPasses_123 : decode cX11_hourPasses 123 = .ok (.iadd, 1) := by decide +kernel
theorem dX11_hourPasses_124 : decode cX11_hourPasses 124 = .ok (.iastore, 1) := by decide +kernel
theorem dX11_hourPasses_125 : decode cX11_hourPasses 125 = .ok (.iload_n 1, 1) := by decide +kernel
theorem dX11_hourPasses_126 : decode cX11_hourPasses 126 = .ok (.ireturn, 1) := by decide +kernel
theorem dX11_keeps_0 : decode cX11_keeps 0 = .ok (.bipush 20, 2) := by decide +kernel
theorem dX11_keeps_2 : decode cX11_keeps 2 = .ok (.istore_n 2, 1) := by decide +kernel
theorem dX11_keeps_3 : decode cX11_keeps 3 = .ok (.aload_n 0, 1) := by decide +kernel
theorem dX11_keeps_4 : decode cX11_keeps 4 = .ok (.getfield 11, 3) := by decide +kernel
theorem dX11_keeps_7 : decode cX11_keeps 7 = .ok (.bipush 16, 2) := by decide +kernel
theorem dX11_keeps_9 : decode cX11_keeps 9 = .ok (.if_icmp .ne 43, 3) := by decide +kernel
theorem dX11_keeps_12 : decode cX11_keeps 12 = .ok (.iconst 0, 1) := by decide +kernel
theorem dX11_keeps_13 : decode cX11_keeps 13 = .ok (.istore_n 3, 1) := by decide +kernel
theorem dX11_keeps_14 : decode cX11_keeps 14 = .ok (.iload_n 3, 1) := by decide +kernel
theorem dX11_keeps_15 : decode cX11_keeps 15 = .ok (.bipush 15, 2) := by decide +kernel
theorem dX11_keeps_17 : decode cX11_keeps 17 = .ok (.iload_n 2, 1) := by decide +kernel
theorem dX11_keeps_18 : decode cX11_keeps 18 = .ok (.imul, 1) := by decide +kernel
theorem dX11_keeps_19 : decode cX11_keeps 19 = .ok (.if_icmp .ge 23, 3) := by decide +kernel
theorem dX11_keeps_22 : decode cX11_keeps 22 = .ok (.aload_n 0, 1) := by decide +kernel
theorem dX11_keeps_23 : decode cX11_keeps 23 = .ok (.getfield 69, 3) := by decide +kernel
theorem dX11_keeps_26 : decode cX11_keeps 26 = .ok (.iload_n 3, 1) := by decide +kernel
theorem dX11_keeps_27 : decode cX11_keeps 27 = .ok (.aload_n 0, 1) := by decide +kernel
theorem dX11_keeps_28 : decode cX11_keeps 28 = .ok (.getfield 69, 3) := by decide +kernel
theorem dX11_keeps_31 : decode cX11_keeps 31 = .ok (.iload_n 3, 1) := by decide +kernel
theorem dX11_keeps_32 : decode cX11_keeps 32 = .ok (.iload_n 2, 1) := by decide +kernel
theorem dX11_keeps_33 : decode cX11_keeps 33 = .ok (.iadd, 1) := by decide +kernel
theorem dX11_keeps_34 : decode cX11_keeps 34 = .ok (.iaload, 1) := by decide +kernel
theorem dX11_keeps_35 : decode cX11_keeps 35 = .ok (.iastore, 1) := by decide +kernel
theorem dX11_keeps_36 : decode cX11_keeps 36 = .ok (.iinc 3 1, 3) := by decide +kernel
theorem dX11_keeps_39 : decode cX11_keeps 39 = .ok (.goto (-25), 3) := by decide +kernel
theorem dX11_keeps_42 : decode cX11_keeps 42 = .ok (.aload_n 0, 1) := by decide +kernel
theorem dX11_keeps_43 : decode cX11_keeps 43 = .ok (.dup, 1) := by decide +kernel
theorem dX11_keeps_44 : decode cX11_keeps 44 = .ok (.getfield 11, 3) := by decide +kernel
theorem dX11_keeps_47 : decode cX11_keeps 47 = .ok (.iconst 1, 1) := by decide +kernel
theorem dX11_keeps_48 : decode cX11_keeps 48 = .ok (.isub, 1) := by decide +kernel
theorem dX11_keeps_49 : decode cX11_keeps 49 = .ok (.putfield 11, 3) := by decide +kernel
theorem dX11_keeps_52 : decode cX11_keeps 52 = .ok (.iconst 0, 1) := by decide +kernel
theorem dX11_keeps_53 : decode cX11_keeps 53 = .ok (.istore_n 3, 1) := by decide +kernel
theorem dX11_keeps_54 : decode cX11_keeps 54 = .ok (.iload_n 3, 1) := by decide +kernel
theorem dX11_keeps_55 : decode cX11_keeps 55 = .ok (.bipush 19, 2) := by decide +kernel
theorem dX11_keeps_57 : decode cX11_keeps 57 = .ok (.if_icmp .ge 28, 3) := by decide +kernel
theorem dX11_keeps_60 : decode cX11_keeps 60 = .ok (.aload_n 0, 1) := by decide +kernel
theorem dX11_keeps_61 : decode cX11_keeps 61 = .ok (.getfield 69, 3) := by decide +kernel
theorem dX11_keeps_64 : decode cX11_keeps 64 = .ok (.iload_n 2, 1) := by decide +kernel
theorem dX11_keeps_65 : decode cX11_keeps 65 = .ok (.aload_n 0, 1) := by decide +kernel
theorem dX11_keeps_66 : decode cX11_keeps 66 = .ok (.getfield 11, 3) := by decide +kernel
theorem dX11_keeps_69 : decode cX11_keeps 69 = .ok (.imul, 1) := by decide +kernel
theorem dX11_keeps_70 : decode cX11_keeps 70 = .ok (.iload_n 3, 1) := by decide +kernel
theorem dX11_keeps_71 : decode cX11_keeps 71 = .ok (.iadd, 1) := by decide +kernel
theorem dX11_keeps_72 : decode cX11_keeps 72 = .ok (.aload_n 0, 1) := by decide +kernel
theorem dX11_keeps_73 : decode cX11_keeps 73 = .ok (.getfield 28, 3) := by decide +kernel
theorem dX11_keeps_76 : decode cX11_keeps 76 = .ok (.iload_n 3, 1) := by decide +kernel
theorem dX11_keeps_77 : decode cX11_keeps 77 = .ok (.iaload, 1) := by decide +kernel
theorem dX11_keeps_78 : decode cX11_keeps 78 = .ok (.iastore, 1) := by decide +kernel
theorem dX11_keeps_79 : decode cX11_keeps 79 = .ok (.iinc 3 1, 3) := by decide +kernel
theorem dX11_keeps_82 : decode cX11_keeps 82 = .ok (.goto (-28), 3) := by decide +kernel
theorem dX11_keeps_85 : decode cX11_keeps 85 = .ok (.aload_n 0, 1) := by decide +kernel
theorem dX11_keeps_86 : decode cX11_keeps 86 = .ok (.getfield 69, 3) := by decide +kernel
theorem dX11_keeps_89 : decode cX11_keeps 89 = .ok (.iload_n 2, 1) := by decide +kernel
theorem dX11_keeps_90 : decode cX11_keeps 90 = .ok (.aload_n 0, 1) := by decide +kernel
theorem dX11_keeps_91 : decode cX11_keeps 91 = .ok (.getfield 11, 3) := by decide +kernel
theorem dX11_keeps_94 : decode cX11_keeps 94 = .ok (.imul, 1) := by decide +kernel
theorem dX11_keeps_95 : decode cX11_keeps 95 = .ok (.bipush 19, 2) := by decide +kernel
theorem dX11_keeps_97 : decode cX11_keeps 97 = .ok (.iadd, 1) := by decide +kernel
theorem dX11_keeps_98 : decode cX11_keeps 98 = .ok (.iload_n 1, 1) := by decide +kernel
theorem dX11_keeps_99 : decode cX11_keeps 99 = .ok (.iastore, 1) := by decide +kernel
theorem dX11_keeps_100 : decode cX11_keeps 100 = .ok (.aload_n 0, 1) := by decide +kernel
theorem dX11_keeps_101 : decode cX11_keeps 101 = .ok (.dup, 1) := by decide +kernel
theorem dX11_keeps_102 : decode cX11_keeps 102 = .ok (.getfield 11, 3) := by decide +kernel
theorem dX11_keeps_105 : decode cX11_keeps 105 = .ok (.iconst 1, 1) := by decide +kernel
theorem dX11_keeps_106 : decode cX11_keeps 106 = .ok (.iadd, 1) := by decide +kernel
theorem dX11_keeps_107 : decode cX11_keeps 107 = .ok (.putfield 11, 3) := by decide +kernel
theorem dX11_keeps_110 : decode cX11_keeps 110 = .ok (.return_, 1) := by decide +kernel
theorem dX11_undo_0 : decode cX11_undo 0 = .ok (.aload_n 0, 1) := by decide +kernel
theorem dX11_undo_1 : decode cX11_undo 1 = .ok (.getfield 11, 3) := by decide +kernel
theorem dX11_undo_4 : decode cX11_undo 4 = .ok (.ifCond .ne 10, 3) := by decide +kernel
theorem dX11_undo_7 : decode cX11_undo 7 = .ok (.aload_n 0, 1) := by decide +kernel
theorem dX11_undo_8 : decode cX11_undo 8 = .ok (.bipush (-3), 2) := by decide +kernel
theorem dX11_undo_10 : decode cX11_undo 10 = .ok (.invokevirtual 106, 3) := by decide +kernel
theorem dX11_undo_13 : decode cX11_undo 13 = .ok (.ireturn, 1) := by decide +kernel
theorem dX11_undo_14 : decode cX11_undo 14 = .ok (.aload_n 0, 1) := by decide +kernel
theorem dX11_undo_15 : decode cX11_undo 15 = .ok (.dup, 1) := by decide +kernel
theorem dX11_undo_16 : decode cX11_undo 16 = .ok (.getfield 11, 3) := by decide +kernel
theorem dX11_undo_19 : decode cX11_undo 19 = .ok (.iconst 1, 1) := by decide +kernel
theorem dX11_undo_20 : decode cX11_undo 20 = .ok (.isub, 1) := by decide +kernel
theorem dX11_undo_21 : decode cX11_undo 21 = .ok (.putfield 11, 3) := by decide +kernel
theorem dX11_undo_24 : decode cX11_undo 24 = .ok (.bipush 20, 2) := by decide +kernel
theorem dX11_undo_26 : decode cX11_undo 26 = .ok (.aload_n 0, 1) := by decide +kernel
theorem dX11_undo_27 : decode cX11_undo 27 = .ok (.getfield 11, 3) := by decide +kernel
theorem dX11_undo_30 : decode cX11_undo 30 = .ok (.imul, 1) := by decide +kernel
theorem dX11_undo_31 : decode cX11_undo 31 = .ok (.istore_n 1, 1) := by decide +kernel
theorem dX11_undo_32 : decode cX11_undo 32 = .ok (.iconst 0, 1) := by decide +kernel
theorem dX11_undo_33 : decode cX11_undo 33 = .ok (.istore_n 2, 1) := by decide +kernel
theorem dX11_undo_34 : decode cX11_undo 34 = .ok (.iload_n 2, 1) := by decide +kernel
theorem dX11_undo_35 : decode cX11_undo 35 = .ok (.bipush 19, 2) := by decide +kernel
theorem dX11_undo_37 : decode cX11_undo 37 = .ok (.if_icmp .ge 23, 3) := by decide +kernel
theorem dX11_undo_40 : decode cX11_undo 40 = .ok (.aload_n 0, 1) := by decide +kernel
theorem dX11_undo_41 : decode cX11_undo 41 = .ok (.getfield 28, 3) := by decide +kernel
theorem dX11_undo_44 : decode cX11_undo 44 = .ok (.iload_n 2, 1) := by decide +kernel
theorem dX11_undo_45 : decode cX11_undo 45 = .ok (.aload_n 0, 1) := by decide +kernel
theorem dX11_undo_46 : decode cX11_undo 46 = .ok (.getfield 69, 3) := by decide +kernel
theorem dX11_undo_49 : decode cX11_undo 49 = .ok (.iload_n 1, 1) := by decide +kernel
theorem dX11_undo_50 : decode cX11_undo 50 = .ok (.iload_n 2, 1) := by decide +kernel
theorem dX11_undo_51 : decode cX11_undo 51 = .ok (.iadd, 1) := by decide +kernel
theorem dX11_undo_52 : decode cX11_undo 52 = .ok (.iaload, 1) := by decide +kernel
theorem dX11_undo_53 : decode cX11_undo 53 = .ok (.iastore, 1) := by decide +kernel
theorem dX11_undo_54 : decode cX11_undo 54 = .ok (.iinc 2 1, 3) := by decide +kernel
theorem dX11_undo_57 : decode cX11_undo 57 = .ok (.goto (-23), 3) := by decide +kernel
theorem dX11_undo_60 : decode cX11_undo 60 = .ok (.aload_n 0, 1) := by decide +kernel
theorem dX11_undo_61 : decode cX11_undo 61 = .ok (.aload_n 0, 1) := by decide +kernel
theorem dX11_undo_62 : decode cX11_undo 62 = .ok (.getfield 69, 3) := by decide +kernel
theorem dX11_undo_65 : decode cX11_undo 65 = .ok (.iload_n 1, 1) := by decide +kernel
theorem dX11_undo_66 : decode cX11_undo 66 = .ok (.bipush 19, 2) := by decide +kernel
theorem dX11_undo_68 : decode cX11_undo 68 = .ok (.iadd, 1) := by decide +kernel
theorem dX11_undo_69 : decode cX11_undo 69 = .ok (.iaload, 1) := by decide +kernel
theorem dX11_undo_70 : decode cX11_undo 70 = .ok (.invokevirtual 14, 3) := by decide +kernel
theorem dX11_undo_73 : decode cX11_undo 73 = .ok (.ireturn, 1) := by decide +kernel
theorem dX11_goodOr_0 : decode cX11_goodOr 0 = .ok (.iload_n 1, 1) := by decide +kernel
theorem dX11_goodOr_1 : decode cX11_goodOr 1 = .ok (.ifCond .ge 11, 3) := by decide +kernel
theorem dX11_goodOr_4 : decode cX11_goodOr 4 = .ok (.aload_n 0, 1) := by decide +kernel
theorem dX11_goodOr_5 : decode cX11_goodOr 5 = .ok (.iload_n 1, 1) := by decide +kernel
theorem dX11_goodOr_6 : decode cX11_goodOr 6 = .ok (.invokevirtual 106, 3) := by decide +kernel
theorem dX11_goodOr_9 : decode cX11_goodOr 9 = .ok (.goto 8, 3) := by decide +kernel
theorem dX11_goodOr_12 : decode cX11_goodOr 12 = .ok (.aload_n 0, 1) := by decide +kernel
theorem dX11_goodOr_13 : decode cX11_goodOr 13 = .ok (.iload_n 1, 1) := by decide +kernel
theorem dX11_goodOr_14 : decode cX11_goodOr 14 = .ok (.invokevirtual 14, 3) := by decide +kernel
theorem dX11_goodOr_17 : decode cX11_goodOr 17 = .ok (.ireturn, 1) := by decide +kernel
theorem dX11_pinsKept_0 : decode cX11_pinsKept 0 = .ok (.iload_n 2, 1) := by decide +kernel
theorem dX11_pinsKept_1 : decode cX11_pinsKept 1 = .ok (.iconst 0, 1) := by decide +kernel
theorem dX11_pinsKept_2 : decode cX11_pinsKept 2 = .ok (.bipush 11, 2) := by decide +kernel
theorem dX11_pinsKept_4 : decode cX11_pinsKept 4 = .ok (.invokestatic 18, 3) := by decide +kernel
theorem dX11_pinsKept_7 : decode cX11_pinsKept 7 = .ok (.ifCond .ne 5, 3) := by decide +kernel
theorem dX11_pinsKept_10 : decode cX11_pinsKept 10 = .ok (.iconst (-1), 1) := by decide +kernel
theorem dX11_pinsKept_11 : decode cX11_pinsKept 11 = .ok (.ireturn, 1) := by decide +kernel
theorem dX11_pinsKept_12 : decode cX11_pinsKept 12 = .ok (.aload_n 0, 1) := by decide +kernel
theorem dX11_pinsKept_13 : decode cX11_pinsKept 13 = .ok (.iload_n 1, 1) := by decide +kernel
theorem dX11_pinsKept_14 : decode cX11_pinsKept 14 = .ok (.invokevirtual 128, 3) := by decide +kernel
theorem dX11_pinsKept_17 : decode cX11_pinsKept 17 = .ok (.ifCond .ne 6, 3) := by decide +kernel
theorem dX11_pinsKept_20 : decode cX11_pinsKept 20 = .ok (.bipush (-2), 2) := by decide +kernel
theorem dX11_pinsKept_22 : decode cX11_pinsKept 22 = .ok (.ireturn, 1) := by decide +kernel
theorem dX11_pinsKept_23 : decode cX11_pinsKept 23 = .ok (.aload_n 0, 1) := by decide +kernel
theorem dX11_pinsKept_24 : decode cX11_pinsKept 24 = .ok (.iload_n 1, 1) := by decide +kernel
theorem dX11_pinsKept_25 : decode cX11_pinsKept 25 = .ok (.iload_n 2, 1) := by decide +kernel
theorem dX11_pinsKept_26 : decode cX11_pinsKept 26 = .ok (.invokevirtual 353, 3) := by decide +kernel
theorem dX11_pinsKept_29 : decode cX11_pinsKept 29 = .ok (.ifCond .ne 6, 3) := by decide +kernel
theorem dX11_pinsKept_32 : decode cX11_pinsKept 32 = .ok (.bipush (-3), 2) := by decide +kernel
theorem dX11_pinsKept_34 : decode cX11_pinsKept 34 = .ok (.ireturn, 1) := by decide +kernel
theorem dX11_pinsKept_35 : decode cX11_pinsKept 35 = .ok (.aload_n 0, 1) := by decide +kernel
theorem dX11_pinsKept_36 : decode cX11_pinsKept 36 = .ok (.iconst 0, 1) := by decide +kernel
theorem dX11_pinsKept_37 : decode cX11_pinsKept 37 = .ok (.invokevirtual 356, 3) := by decide +kernel
theorem dX11_pinsKept_40 : decode cX11_pinsKept 40 = .ok (.aload_n 0, 1) := by decide +kernel
theorem dX11_pinsKept_41 : decode cX11_pinsKept 41 = .ok (.iload_n 1, 1) := by decide +kernel
theorem dX11_pinsKept_42 : decode cX11_pinsKept 42 = .ok (.iload_n 2, 1) := by decide +kernel
theorem dX11_pinsKept_43 : decode cX11_pinsKept 43 = .ok (.invokevirtual 350, 3) := by decide +kernel
theorem dX11_pinsKept_46 : decode cX11_pinsKept 46 = .ok (.aload_n 0, 1) := by decide +kernel
theorem dX11_pinsKept_47 : decode cX11_pinsKept 47 = .ok (.iload_n 1, 1) := by decide +kernel
theorem dX11_pinsKept_48 : decode cX11_pinsKept 48 = .ok (.iload_n 2, 1) := by decide +kernel
theorem dX11_pinsKept_49 : decode cX11_pinsKept 49 = .ok (.invokevirtual 341, 3) := by decide +kernel
theorem dX11_pinsKept_52 : decode cX11_pinsKept 52 = .ok (.ifCond .eq 7, 3) := by decide +kernel
theorem dX11_pinsKept_55 : decode cX11_pinsKept 55 = .ok (.iconst 1, 1) := by decide +kernel
theorem dX11_pinsKept_56 : decode cX11_pinsKept 56 = .ok (.goto 4, 3) := by decide +kernel
theorem dX11_pinsKept_59 : decode cX11_pinsKept 59 = .ok (.iconst 0, 1) := by decide +kernel
theorem dX11_pinsKept_60 : decode cX11_pinsKept 60 = .ok (.ireturn, 1) := by decide +kernel
theorem dX11_shiftsKept_0 : decode cX11_shiftsKept 0 = .ok (.iload_n 2, 1) := by decide +kernel
theorem dX11_shiftsKept_1 : decode cX11_shiftsKept 1 = .ok (.iconst 1, 1) := by decide +kernel
theorem dX11_shiftsKept_2 : decode cX11_shiftsKept 2 = .ok (.bipush 11, 2) := by decide +kernel
theorem dX11_shiftsKept_4 : decode cX11_shiftsKept 4 = .ok (.invokestatic 18, 3) := by decide +kernel
theorem dX11_shiftsKept_7 : decode cX11_shiftsKept 7 = .ok (.ifCond .ne 5, 3) := by decide +kernel
theorem dX11_shiftsKept_10 : decode cX11_shiftsKept 10 = .ok (.iconst (-1), 1) := by decide +kernel
theorem dX11_shiftsKept_11 : decode cX11_shiftsKept 11 = .ok (.ireturn, 1) := by decide +kernel
theorem dX11_shiftsKept_12 : decode cX11_shiftsKept 12 = .ok (.aload_n 0, 1) := by decide +kernel
theorem dX11_shiftsKept_13 : decode cX11_shiftsKept 13 = .ok (.iload_n 1, 1) := by decide +kernel
theorem dX11_shiftsKept_14 : decode cX11_shiftsKept 14 = .ok (.invokevirtual 128, 3) := by decide +kernel
theorem dX11_shiftsKept_17 : decode cX11_shiftsKept 17 = .ok (.ifCond .ne 6, 3) := by decide +kernel
theorem dX11_shiftsKept_20 : decode cX11_shiftsKept 20 = .ok (.bipush (-2), 2) := by decide +kernel
theorem dX11_shiftsKept_22 : decode cX11_shiftsKept 22 = .ok (.ireturn, 1) := by decide +kernel
theorem dX11_shiftsKept_23 : decode cX11_shiftsKept 23 = .ok (.aload_n 0, 1) := by decide +kernel
theorem dX11_shiftsKept_24 : decode cX11_shiftsKept 24 = .ok (.iconst 1, 1) := by decide +kernel
theorem dX11_shiftsKept_25 : decode cX11_shiftsKept 25 = .ok (.invokevirtual 356, 3) := by decide +kernel
theorem dX11_shiftsKept_28 : decode cX11_shiftsKept 28 = .ok (.aload_n 0, 1) := by decide +kernel
theorem dX11_shiftsKept_29 : decode cX11_shiftsKept 29 = .ok (.getfield 28, 3) := by decide +kernel
theorem dX11_shiftsKept_32 : decode cX11_shiftsKept 32 = .ok (.bipush 6, 2) := by decide +kernel
theorem dX11_shiftsKept_34 : decode cX11_shiftsKept 34 = .ok (.iload_n 1, 1) := by decide +kernel
theorem dX11_shiftsKept_35 : decode cX11_shiftsKept 35 = .ok (.iadd, 1) := by decide +kernel
theorem dX11_shiftsKept_36 : decode cX11_shiftsKept 36 = .ok (.aload_n 0, 1) := by decide +kernel
theorem dX11_shiftsKept_37 : decode cX11_shiftsKept 37 = .ok (.getfield 28, 3) := by decide +kernel
theorem dX11_shiftsKept_40 : decode cX11_shiftsKept 40 = .ok (.bipush 6, 2) := by decide +kernel
theorem dX11_shiftsKept_42 : decode cX11_shiftsKept 42 = .ok (.iload_n 1, 1) := by decide +kernel
theorem dX11_shiftsKept_43 : decode cX11_shiftsKept 43 = .ok (.iadd, 1) := by decide +kernel
theorem dX11_shiftsKept_44 : decode cX11_shiftsKept 44 = .ok (.iaload, 1) := by decide +kernel
theorem dX11_shiftsKept_45 : decode cX11_shiftsKept 45 = .ok (.iload_n 2, 1) := by decide +kernel
theorem dX11_shiftsKept_46 : decode cX11_shiftsKept 46 = .ok (.iadd, 1) := by decide +kernel
theorem dX11_shiftsKept_47 : decode cX11_shiftsKept 47 = .ok (.aload_n 0, 1) := by decide +kernel
theorem dX11_shiftsKept_48 : decode cX11_shiftsKept 48 = .ok (.getfield 28, 3) := by decide +kernel
theorem dX11_shiftsKept_51 : decode cX11_shiftsKept 51 = .ok (.bipush 19, 2) := by decide +kernel
theorem dX11_shiftsKept_53 : decode cX11_shiftsKept 53 = .ok (.iload_n 1, 1) := by decide +kernel
theorem dX11_shiftsKept_54 : decode cX11_shiftsKept 54 = .ok (.iadd, 1) := by decide +kernel
theorem dX11_shiftsKept_55 : decode cX11_shiftsKept 55 = .ok (.iaload, 1) := by decide +kernel
theorem dX11_shiftsKept_56 : decode cX11_shiftsKept 56 = .ok (.irem, 1) := by decide +kernel
theorem dX11_shiftsKept_57 : decode cX11_shiftsKept 57 = .ok (.iastore, 1) := by decide +kernel
theorem dX11_shiftsKept_58 : decode cX11_shiftsKept 58 = .ok (.aload_n 0, 1) := by decide +kernel
theorem dX11_shiftsKept_59 : decode cX11_shiftsKept 59 = .ok (.getfield 28, 3) := by decide +kernel
theorem dX11_shiftsKept_62 : decode cX11_shiftsKept 62 = .ok (.bipush 6, 2) := by decide +kernel
theorem dX11_shiftsKept_64 : decode cX11_shiftsKept 64 = .ok (.iload_n 1, 1) := by decide +kernel
theorem dX11_shiftsKept_65 : decode cX11_shiftsKept 65 = .ok (.iadd, 1) := by decide +kernel
theorem dX11_shiftsKept_66 : decode cX11_shiftsKept 66 = .ok (.iaload, 1) := by decide +kernel
theorem dX11_shiftsKept_67 : decode cX11_shiftsKept 67 = .ok (.ireturn, 1) := by decide +kernel
theorem dX11_stopsKept_0 : decode cX11_stopsKept 0 = .ok (.aload_n 0, 1) := by decide +kernel
theorem dX11_stopsKept_1 : decode cX11_stopsKept 1 = .ok (.iload_n 1, 1) := by decide +kernel
theorem dX11_stopsKept_2 : decode cX11_stopsKept 2 = .ok (.invokevirtual 128, 3) := by decide +kernel
theorem dX11_stopsKept_5 : decode cX11_stopsKept 5 = .ok (.ifCond .ne 6, 3) := by decide +kernel
theorem dX11_stopsKept_8 : decode cX11_stopsKept 8 = .ok (.bipush (-2), 2) := by decide +kernel
theorem dX11_stopsKept_10 : decode cX11_stopsKept 10 = .ok (.ireturn, 1) := by decide +kernel
theorem dX11_stopsKept_11 : decode cX11_stopsKept 11 = .ok (.aload_n 0, 1) := by decide +kernel
theorem dX11_stopsKept_12 : decode cX11_stopsKept 12 = .ok (.iconst 2, 1) := by decide +kernel
theorem dX11_stopsKept_13 : decode cX11_stopsKept 13 = .ok (.invokevirtual 356, 3) := by decide +kernel
theorem dX11_stopsKept_16 : decode cX11_stopsKept 16 = .ok (.aload_n 0, 1) := by decide +kernel
theorem dX11_stopsKept_17 : decode cX11_stopsKept 17 = .ok (.getfield 28, 3) := by decide +kernel
theorem dX11_stopsKept_20 : decode cX11_stopsKept 20 = .ok (.bipush 12, 2) := by decide +kernel
theorem dX11_stopsKept_22 : decode cX11_stopsKept 22 = .ok (.iload_n 1, 1) := by decide +kernel
theorem dX11_stopsKept_23 : decode cX11_stopsKept 23 = .ok (.iadd, 1) := by decide +kernel
theorem dX11_stopsKept_24 : decode cX11_stopsKept 24 = .ok (.iconst 1, 1) := by decide +kernel
theorem dX11_stopsKept_25 : decode cX11_stopsKept 25 = .ok (.aload_n 0, 1) := by decide +kernel
theorem dX11_stopsKept_26 : decode cX11_stopsKept 26 = .ok (.getfield 28, 3) := by decide +kernel
theorem dX11_stopsKept_29 : decode cX11_stopsKept 29 = .ok (.bipush 12, 2) := by decide +kernel
theorem dX11_stopsKept_31 : decode cX11_stopsKept 31 = .ok (.iload_n 1, 1) := by decide +kernel
theorem dX11_stopsKept_32 : decode cX11_stopsKept 32 = .ok (.iadd, 1) := by decide +kernel
theorem dX11_stopsKept_33 : decode cX11_stopsKept 33 = .ok (.iaload, 1) := by decide +kernel
theorem dX11_stopsKept_34 : decode cX11_stopsKept 34 = .ok (.isub, 1) := by decide +kernel
theorem dX11_stopsKept_35 : decode cX11_stopsKept 35 = .ok (.iastore, 1) := by decide +kernel
theorem dX11_stopsKept_36 : decode cX11_stopsKept 36 = .ok (.aload_n 0, 1) := by decide +kernel
theorem dX11_stopsKept_37 : decode cX11_stopsKept 37 = .ok (.getfield 28, 3) := by decide +kernel
theorem dX11_stopsKept_40 : decode cX11_stopsKept 40 = .ok (.bipush 12, 2) := by decide +kernel
theorem dX11_stopsKept_42 : decode cX11_stopsKept 42 = .ok (.iload_n 1, 1) := by decide +kernel
theorem dX11_stopsKept_43 : decode cX11_stopsKept 43 = .ok (.iadd, 1) := by decide +kernel
theorem dX11_stopsKept_44 : decode cX11_stopsKept 44 = .ok (.iaload, 1) := by decide +kernel
theorem dX11_stopsKept_45 : decode cX11_stopsKept 45 = .ok (.ireturn, 1) := by decide +kernel
theorem dX11_passesKept_0 : decode cX11_passesKept 0 = .ok (.aload_n 0, 1) := by decide +kernel
theorem dX11_passesKept_1 : decode cX11_passesKept 1 = .ok (.getfield 28, 3) := by decide +kernel
theorem dX11_passesKept_4 : decode cX11_passesKept 4 = .ok (.bipush 18, 2) := by decide +kernel
theorem dX11_passesKept_6 : decode cX11_passesKept 6 = .ok (.iaload, 1) := by decide +kernel
theorem dX11_passesKept_7 : decode cX11_passesKept 7 = .ok (.sipush 999, 3) := by decide +kernel
theorem dX11_passesKept_10 : decode cX11_passesKept 10 = .ok (.if_icmp .ne 6, 3) := by decide +kernel
theorem dX11_passesKept_13 : decode cX11_passesKept 13 = .ok (.bipush (-3), 2) := by decide +kernel
theorem dX11_passesKept_15 : decode cX11_passesKept 15 = .ok (.ireturn, 1) := by decide +kernel
theorem dX11_passesKept_16 : decode cX11_passesKept 16 = .ok (.aload_n 0, 1) := by decide +kernel
theorem dX11_passesKept_17 : decode cX11_passesKept 17 = .ok (.iconst 3, 1) := by decide +kernel
theorem dX11_passesKept_18 : decode cX11_passesKept 18 = .ok (.invokevirtual 356, 3) := by decide +kernel
theorem dX11_passesKept_21 : decode cX11_passesKept 21 = .ok (.aload_n 0, 1) := by decide +kernel
theorem dX11_passesKept_22 : decode cX11_passesKept 22 = .ok (.invokevirtual 359, 3) := by decide +kernel
theorem dX11_passesKept_25 : decode cX11_passesKept 25 = .ok (.ireturn, 1) := by decide +kernel
theorem dX11_pin_0 : decode cX11_pin 0 = .ok (.aload_n 0, 1) := by decide +kernel
theorem dX11_pin_1 : decode cX11_pin 1 = .ok (.aload_n 0, 1) := by decide +kernel
theorem dX11_pin_2 : decode cX11_pin 2 = .ok (.iload_n 1, 1) := by decide +kernel
theorem dX11_pin_3 : decode cX11_pin 3 = .ok (.iload_n 2, 1) := by decide +kernel
theorem dX11_pin_4 : decode cX11_pin 4 = .ok (.invokevirtual 362, 3) := by decide +kernel
theorem dX11_pin_7 : decode cX11_pin 7 = .ok (.invokevirtual 365, 3) := by decide +kernel
theorem dX11_pin_10 : decode cX11_pin 10 = .ok (.ireturn, 1) := by decide +kernel
theorem dX11_shift_0 : decode cX11_shift 0 = .ok (.aload_n 0, 1) := by decide +kernel
theorem dX11_shift_1 : decode cX11_shift 1 = .ok (.aload_n 0, 1) := by decide +kernel
theorem dX11_shift_2 : decode cX11_shift 2 = .ok (.iload_n 1, 1) := by decide +kernel
theorem dX11_shift_3 : decode cX11_shift 3 = .ok (.iload_n 2, 1) := by decide +kernel
theorem dX11_shift_4 : decode cX11_shift 4 = .ok (.invokevirtual 368, 3) := by decide +kernel
theorem dX11_shift_7 : decode cX11_shift 7 = .ok (.invokevirtual 365, 3) := by decide +kernel
theorem dX11_shift_10 : decode cX11_shift 10 = .ok (.ireturn, 1) := by decide +kernel
theorem dX11_stop_0 : decode cX11_stop 0 = .ok (.aload_n 0, 1) := by decide +kernel
theorem dX11_stop_1 : decode cX11_stop 1 = .ok (.aload_n 0, 1) := by decide +kernel
theorem dX11_stop_2 : decode cX11_stop 2 = .ok (.iload_n 1, 1) := by decide +kernel
theorem dX11_stop_3 : decode cX11_stop 3 = .ok (.invokevirtual 371, 3) := by decide +kernel
theorem dX11_stop_6 : decode cX11_stop 6 = .ok (.invokevirtual 365, 3) := by decide +kernel
theorem dX11_stop_9 : decode cX11_stop 9 = .ok (.ireturn, 1) := by decide +kernel
theorem dX11_pass_0 : decode cX11_pass 0 = .ok (.aload_n 0, 1) := by decide +kernel
theorem dX11_pass_1 : decode cX11_pass 1 = .ok (.aload_n 0, 1) := by decide +kernel
theorem dX11_pass_2 : decode cX11_pass 2 = .ok (.invokevirtual 374, 3) := by decide +kernel
theorem dX11_pass_5 : decode cX11_pass 5 = .ok (.invokevirtual 365, 3) := by decide +kernel
theorem dX11_pass_8 : decode cX11_pass 8 = .ok (.ireturn, 1) := by decide +kernel
theorem dX11_laysRound_0 : decode cX11_laysRound 0 = .ok (.aload_n 0, 1) := by decide +kernel
theorem dX11_laysRound_1 : decode cX11_laysRound 1 = .ok (.aload_n 0, 1) := by decide +kernel
theorem dX11_laysRound_2 : decode cX11_laysRound 2 = .ok (.invokevirtual 377, 3) := by decide +kernel
theorem dX11_laysRound_5 : decode cX11_laysRound 5 = .ok (.putfield 380, 3) := by decide +kernel
theorem dX11_laysRound_8 : decode cX11_laysRound 8 = .ok (.iconst 0, 1) := by decide +kernel
theorem dX11_laysRound_9 : decode cX11_laysRound 9 = .ok (.istore_n 1, 1) := by decide +kernel
theorem dX11_laysRound_10 : decode cX11_laysRound 10 = .ok (.iload_n 1, 1) := by decide +kernel
theorem dX11_laysRound_11 : decode cX11_laysRound 11 = .ok (.aload_n 0, 1) := by decide +kernel
theorem dX11_laysRound_12 : decode cX11_laysRound 12 = .ok (.getfield 380, 3) := by decide +kernel
theorem dX11_laysRound_15 : decode cX11_laysRound 15 = .ok (.if_icmp .ge 57, 3) := by decide +kernel
theorem dX11_laysRound_18 : decode cX11_laysRound 18 = .ok (.aload_n 0, 1) := by decide +kernel
theorem dX11_laysRound_19 : decode cX11_laysRound 19 = .ok (.getfield 75, 3) := by decide +kernel
theorem dX11_laysRound_22 : decode cX11_laysRound 22 = .ok (.iload_n 1, 1) := by decide +kernel
theorem dX11_laysRound_23 : decode cX11_laysRound 23 = .ok (.iconst 0, 1) := by decide +kernel
theorem dX11_laysRound_24 : decode cX11_laysRound 24 = .ok (.iastore, 1) := by decide +kernel
theorem dX11_laysRound_25 : decode cX11_laysRound 25 = .ok (.iconst 0, 1) := by decide +kernel
theorem dX11_laysRound_26 : decode cX11_laysRound 26 = .ok (.istore_n 2, 1) := by decide +kernel
theorem dX11_laysRound_27 : decode cX11_laysRound 27 = .ok (.iload_n 2, 1) := by decide +kernel
theorem dX11_laysRound_28 : decode cX11_laysRound 28 = .ok (.aload_n 0, 1) := by decide +kernel
theorem dX11_laysRound_29 : decode cX11_laysRound 29 = .ok (.invokevirtual 112, 3) := by decide +kernel
theorem dX11_laysRound_32 : decode cX11_laysRound 32 = .ok (.if_icmp .ge 34, 3) := by decide +kernel
theorem dX11_laysRound_35 : decode cX11_laysRound 35 = .ok (.aload_n 0, 1) := by decide +kernel
theorem dX11_laysRound_36 : decode cX11_laysRound 36 = .ok (.getfield 75, 3) := by decide +kernel
theorem dX11_laysRound_39 : decode cX11_laysRound 39 = .ok (.iload_n 1, 1) := by decide +kernel
theorem dX11_laysRound_40 : decode cX11_laysRound 40 = .ok (.dup2, 1) := by decide +kernel
theorem dX11_laysRound_41 : decode cX11_laysRound 41 = .ok (.iaload, 1) := by decide +kernel
theorem dX11_laysRound_42 : decode cX11_laysRound 42 = .ok (.aload_n 0, 1) := by decide +kernel
theorem dX11_laysRound_43 : decode cX11_laysRound 43 = .ok (.iload_n 2, 1) := by decide +kernel
theorem dX11_laysRound_44 : decode cX11_laysRound 44 = .ok (.iload_n 1, 1) := by decide +kernel
theorem dX11_laysRound_45 : decode cX11_laysRound 45 = .ok (.invokevirtual 132, 3) := by decide +kernel
theorem dX11_laysRound_48 : decode cX11_laysRound 48 = .ok (.ifCond .eq 9, 3) := by decide +kernel
theorem dX11_laysRound_51 : decode cX11_laysRound 51 = .ok (.iconst 1, 1) := by decide +kernel
theorem dX11_laysRound_52 : decode cX11_laysRound 52 = .ok (.iload_n 2, 1) := by decide +kernel
theorem dX11_laysRound_53 : decode cX11_laysRound 53 = .ok (.ishl, 1) := by decide +kernel
theorem dX11_laysRound_54 : decode cX11_laysRound 54 = .ok (.goto 4, 3) := by decide +kernel
theorem dX11_laysRound_57 : decode cX11_laysRound 57 = .ok (.iconst 0, 1) := by decide +kernel
theorem dX11_laysRound_58 : decode cX11_laysRound 58 = .ok (.ior, 1) := by decide +kernel
theorem dX11_laysRound_59 : decode cX11_laysRound 59 = .ok (.iastore, 1) := by decide +kernel
theorem dX11_laysRound_60 : decode cX11_laysRound 60 = .ok (.iinc 2 1, 3) := by decide +kernel
theorem dX11_laysRound_63 : decode cX11_laysRound 63 = .ok (.goto (-36), 3) := by decide +kernel
theorem dX11_laysRound_66 : decode cX11_laysRound 66 = .ok (.iinc 1 1, 3) := by decide +kernel
theorem dX11_laysRound_69 : decode cX11_laysRound 69 = .ok (.goto (-59), 3) := by decide +kernel
theorem dX11_laysRound_72 : decode cX11_laysRound 72 = .ok (.return_, 1) := by decide +kernel
theorem dX11_laysNoise_0 : decode cX11_laysNoise 0 = .ok (.aload_n 0, 1) := by decide +kernel
theorem dX11_laysNoise_1 : decode cX11_laysNoise 1 = .ok (.invokevirtual 383, 3) := by decide +kernel
theorem dX11_laysNoise_4 : decode cX11_laysNoise 4 = .ok (.iconst 0, 1) := by decide +kernel
theorem dX11_laysNoise_5 : decode cX11_laysNoise 5 = .ok (.istore_n 1, 1) := by decide +kernel
theorem dX11_laysNoise_6 : decode cX11_laysNoise 6 = .ok (.iload_n 1, 1) := by decide +kernel
theorem dX11_laysNoise_7 : decode cX11_laysNoise 7 = .ok (.aload_n 0, 1) := by decide +kernel
theorem dX11_laysNoise_8 : decode cX11_laysNoise 8 = .ok (.invokevirtual 112, 3) := by decide +kernel
theorem dX11_laysNoise_11 : decode cX11_laysNoise 11 = .ok (.if_icmp .ge 47, 3) := by decide +kernel
