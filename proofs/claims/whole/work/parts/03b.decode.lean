theorem dX3_init_0 : decode cX3_init 0 = .ok (.aload_n 0, 1) := by decide +kernel
theorem dX3_init_1 : decode cX3_init 1 = .ok (.invokespecial 3, 3) := by decide +kernel
theorem dX3_init_4 : decode cX3_init 4 = .ok (.aload_n 0, 1) := by decide +kernel
theorem dX3_init_5 : decode cX3_init 5 = .ok (.new 9, 3) := by decide +kernel
theorem dX3_init_8 : decode cX3_init 8 = .ok (.dup, 1) := by decide +kernel
theorem dX3_init_9 : decode cX3_init 9 = .ok (.bipush 12, 2) := by decide +kernel
theorem dX3_init_11 : decode cX3_init 11 = .ok (.sipush 512, 3) := by decide +kernel
theorem dX3_init_14 : decode cX3_init 14 = .ok (.invokespecial 11, 3) := by decide +kernel
theorem dX3_init_17 : decode cX3_init 17 = .ok (.putfield 14, 3) := by decide +kernel
theorem dX3_init_20 : decode cX3_init 20 = .ok (.aload_n 0, 1) := by decide +kernel
theorem dX3_init_21 : decode cX3_init 21 = .ok (.iconst 1, 1) := by decide +kernel
theorem dX3_init_22 : decode cX3_init 22 = .ok (.putfield 20, 3) := by decide +kernel
theorem dX3_init_25 : decode cX3_init 25 = .ok (.aload_n 0, 1) := by decide +kernel
theorem dX3_init_26 : decode cX3_init 26 = .ok (.iconst 0, 1) := by decide +kernel
theorem dX3_init_27 : decode cX3_init 27 = .ok (.putfield 24, 3) := by decide +kernel
theorem dX3_init_30 : decode cX3_init 30 = .ok (.aload_n 0, 1) := by decide +kernel
theorem dX3_init_31 : decode cX3_init 31 = .ok (.iconst 0, 1) := by decide +kernel
theorem dX3_init_32 : decode cX3_init 32 = .ok (.putfield 28, 3) := by decide +kernel
theorem dX3_init_35 : decode cX3_init 35 = .ok (.aload_n 0, 1) := by decide +kernel
theorem dX3_init_36 : decode cX3_init 36 = .ok (.iconst 0, 1) := by decide +kernel
theorem dX3_init_37 : decode cX3_init 37 = .ok (.putfield 31, 3) := by decide +kernel
theorem dX3_init_40 : decode cX3_init 40 = .ok (.aload_n 0, 1) := by decide +kernel
theorem dX3_init_41 : decode cX3_init 41 = .ok (.iconst 0, 1) := by decide +kernel
theorem dX3_init_42 : decode cX3_init 42 = .ok (.putfield 34, 3) := by decide +kernel
theorem dX3_init_45 : decode cX3_init 45 = .ok (.aload_n 0, 1) := by decide +kernel
theorem dX3_init_46 : decode cX3_init 46 = .ok (.iconst 0, 1) := by decide +kernel
theorem dX3_init_47 : decode cX3_init 47 = .ok (.putfield 37, 3) := by decide +kernel
theorem dX3_init_50 : decode cX3_init 50 = .ok (.aload_n 0, 1) := by decide +kernel
theorem dX3_init_51 : decode cX3_init 51 = .ok (.iconst (-1), 1) := by decide +kernel
theorem dX3_init_52 : decode cX3_init 52 = .ok (.putfield 40, 3) := by decide +kernel
theorem dX3_init_55 : decode cX3_init 55 = .ok (.aload_n 0, 1) := by decide +kernel
theorem dX3_init_56 : decode cX3_init 56 = .ok (.aload_n 1, 1) := by decide +kernel
theorem dX3_init_57 : decode cX3_init 57 = .ok (.putfield 43, 3) := by decide +kernel
theorem dX3_init_60 : decode cX3_init 60 = .ok (.return_, 1) := by decide +kernel
theorem dX3_read_0 : decode cX3_read 0 = .ok (.aload_n 0, 1) := by decide +kernel
theorem dX3_read_1 : decode cX3_read 1 = .ok (.iload_n 1, 1) := by decide +kernel
theorem dX3_read_2 : decode cX3_read 2 = .ok (.putfield 20, 3) := by decide +kernel
theorem dX3_read_5 : decode cX3_read 5 = .ok (.aload_n 0, 1) := by decide +kernel
theorem dX3_read_6 : decode cX3_read 6 = .ok (.iconst 0, 1) := by decide +kernel
theorem dX3_read_7 : decode cX3_read 7 = .ok (.putfield 31, 3) := by decide +kernel
theorem dX3_read_10 : decode cX3_read 10 = .ok (.aload_n 0, 1) := by decide +kernel
theorem dX3_read_11 : decode cX3_read 11 = .ok (.iconst 0, 1) := by decide +kernel
theorem dX3_read_12 : decode cX3_read 12 = .ok (.putfield 37, 3) := by decide +kernel
theorem dX3_read_15 : decode cX3_read 15 = .ok (.aload_n 0, 1) := by decide +kernel
theorem dX3_read_16 : decode cX3_read 16 = .ok (.iconst (-1), 1) := by decide +kernel
theorem dX3_read_17 : decode cX3_read 17 = .ok (.putfield 40, 3) := by decide +kernel
theorem dX3_read_20 : decode cX3_read 20 = .ok (.aload_n 0, 1) := by decide +kernel
theorem dX3_read_21 : decode cX3_read 21 = .ok (.getfield 14, 3) := by decide +kernel
theorem dX3_read_24 : decode cX3_read 24 = .ok (.invokevirtual 47, 3) := by decide +kernel
theorem dX3_read_27 : decode cX3_read 27 = .ok (.aload_n 0, 1) := by decide +kernel
theorem dX3_read_28 : decode cX3_read 28 = .ok (.invokevirtual 50, 3) := by decide +kernel
theorem dX3_read_31 : decode cX3_read 31 = .ok (.iconst 1, 1) := by decide +kernel
theorem dX3_read_32 : decode cX3_read 32 = .ok (.istore_n 2, 1) := by decide +kernel
theorem dX3_read_33 : decode cX3_read 33 = .ok (.iconst 0, 1) := by decide +kernel
theorem dX3_read_34 : decode cX3_read 34 = .ok (.istore_n 3, 1) := by decide +kernel
theorem dX3_read_35 : decode cX3_read 35 = .ok (.iload_n 3, 1) := by decide +kernel
theorem dX3_read_36 : decode cX3_read 36 = .ok (.bipush 12, 2) := by decide +kernel
theorem dX3_read_38 : decode cX3_read 38 = .ok (.if_icmp .ge 24, 3) := by decide +kernel
theorem dX3_read_41 : decode cX3_read 41 = .ok (.iload_n 2, 1) := by decide +kernel
theorem dX3_read_42 : decode cX3_read 42 = .ok (.ifCond .eq 20, 3) := by decide +kernel
theorem dX3_read_45 : decode cX3_read 45 = .ok (.aload_n 0, 1) := by decide +kernel
theorem dX3_read_46 : decode cX3_read 46 = .ok (.invokevirtual 53, 3) := by decide +kernel
theorem dX3_read_49 : decode cX3_read 49 = .ok (.aload_n 0, 1) := by decide +kernel
theorem dX3_read_50 : decode cX3_read 50 = .ok (.bipush 59, 2) := by decide +kernel
theorem dX3_read_52 : decode cX3_read 52 = .ok (.invokevirtual 56, 3) := by decide +kernel
theorem dX3_read_55 : decode cX3_read 55 = .ok (.istore_n 2, 1) := by decide +kernel
theorem dX3_read_56 : decode cX3_read 56 = .ok (.iinc 3 1, 3) := by decide +kernel
theorem dX3_read_59 : decode cX3_read 59 = .ok (.goto (-24), 3) := by decide +kernel
theorem dX3_read_62 : decode cX3_read 62 = .ok (.iload_n 2, 1) := by decide +kernel
theorem dX3_read_63 : decode cX3_read 63 = .ok (.ifCond .ne 10, 3) := by decide +kernel
theorem dX3_read_66 : decode cX3_read 66 = .ok (.aload_n 0, 1) := by decide +kernel
theorem dX3_read_67 : decode cX3_read 67 = .ok (.getfield 24, 3) := by decide +kernel
theorem dX3_read_70 : decode cX3_read 70 = .ok (.ifCond .eq 7, 3) := by decide +kernel
theorem dX3_read_73 : decode cX3_read 73 = .ok (.aload_n 0, 1) := by decide +kernel
theorem dX3_read_74 : decode cX3_read 74 = .ok (.invokevirtual 60, 3) := by decide +kernel
theorem dX3_read_77 : decode cX3_read 77 = .ok (.aload_n 0, 1) := by decide +kernel
theorem dX3_read_78 : decode cX3_read 78 = .ok (.getfield 40, 3) := by decide +kernel
theorem dX3_read_81 : decode cX3_read 81 = .ok (.ireturn, 1) := by decide +kernel
theorem dX3_readClause_0 : decode cX3_readClause 0 = .ok (.aload_n 0, 1) := by decide +kernel
theorem dX3_readClause_1 : decode cX3_readClause 1 = .ok (.aload_n 0, 1) := by decide +kernel
theorem dX3_readClause_2 : decode cX3_readClause 2 = .ok (.getfield 20, 3) := by decide +kernel
theorem dX3_readClause_5 : decode cX3_readClause 5 = .ok (.ifCond .eq 8, 3) := by decide +kernel
theorem dX3_readClause_8 : decode cX3_readClause 8 = .ok (.ldc 63, 2) := by decide +kernel
theorem dX3_readClause_10 : decode cX3_readClause 10 = .ok (.goto 5, 3) := by decide +kernel
theorem dX3_readClause_13 : decode cX3_readClause 13 = .ok (.ldc 65, 2) := by decide +kernel
theorem dX3_readClause_15 : decode cX3_readClause 15 = .ok (.invokevirtual 67, 3) := by decide +kernel
theorem dX3_readClause_18 : decode cX3_readClause 18 = .ok (.istore_n 1, 1) := by decide +kernel
theorem dX3_readClause_19 : decode cX3_readClause 19 = .ok (.iload_n 1, 1) := by decide +kernel
theorem dX3_readClause_20 : decode cX3_readClause 20 = .ok (.iconst (-1), 1) := by decide +kernel
theorem dX3_readClause_21 : decode cX3_readClause 21 = .ok (.if_icmp .ne 7, 3) := by decide +kernel
theorem dX3_readClause_24 : decode cX3_readClause 24 = .ok (.iconst (-1), 1) := by decide +kernel
theorem dX3_readClause_25 : decode cX3_readClause 25 = .ok (.goto 11, 3) := by decide +kernel
theorem dX3_readClause_28 : decode cX3_readClause 28 = .ok (.aload_n 0, 1) := by decide +kernel
theorem dX3_readClause_29 : decode cX3_readClause 29 = .ok (.getfield 14, 3) := by decide +kernel
theorem dX3_readClause_32 : decode cX3_readClause 32 = .ok (.iload_n 1, 1) := by decide +kernel
theorem dX3_readClause_33 : decode cX3_readClause 33 = .ok (.invokevirtual 71, 3) := by decide +kernel
theorem dX3_readClause_36 : decode cX3_readClause 36 = .ok (.istore_n 2, 1) := by decide +kernel
theorem dX3_readClause_37 : decode cX3_readClause 37 = .ok (.iload_n 2, 1) := by decide +kernel
theorem dX3_readClause_38 : decode cX3_readClause 38 = .ok (.iconst (-1), 1) := by decide +kernel
theorem dX3_readClause_39 : decode cX3_readClause 39 = .ok (.if_icmp .ne 8, 3) := by decide +kernel
theorem dX3_readClause_42 : decode cX3_readClause 42 = .ok (.aload_n 0, 1) := by decide +kernel
theorem dX3_readClause_43 : decode cX3_readClause 43 = .ok (.invokevirtual 60, 3) := by decide +kernel
theorem dX3_readClause_46 : decode cX3_readClause 46 = .ok (.return_, 1) := by decide +kernel
theorem dX3_readClause_47 : decode cX3_readClause 47 = .ok (.aload_n 0, 1) := by decide +kernel
theorem dX3_readClause_48 : decode cX3_readClause 48 = .ok (.invokevirtual 50, 3) := by decide +kernel
theorem dX3_readClause_51 : decode cX3_readClause 51 = .ok (.aload_n 0, 1) := by decide +kernel
theorem dX3_readClause_52 : decode cX3_readClause 52 = .ok (.getfield 20, 3) := by decide +kernel
theorem dX3_readClause_55 : decode cX3_readClause 55 = .ok (.ifCond .eq 41, 3) := by decide +kernel
theorem dX3_readClause_58 : decode cX3_readClause 58 = .ok (.iload_n 1, 1) := by decide +kernel
theorem dX3_readClause_59 : decode cX3_readClause 59 = .ok (.ifCond .ne 43, 3) := by decide +kernel
theorem dX3_readClause_62 : decode cX3_readClause 62 = .ok (.aload_n 0, 1) := by decide +kernel
theorem dX3_readClause_63 : decode cX3_readClause 63 = .ok (.getfield 14, 3) := by decide +kernel
theorem dX3_readClause_66 : decode cX3_readClause 66 = .ok (.getfield 75, 3) := by decide +kernel
theorem dX3_readClause_69 : decode cX3_readClause 69 = .ok (.iload_n 2, 1) := by decide +kernel
theorem dX3_readClause_70 : decode cX3_readClause 70 = .ok (.aload_n 0, 1) := by decide +kernel
theorem dX3_readClause_71 : decode cX3_readClause 71 = .ok (.getfield 14, 3) := by decide +kernel
theorem dX3_readClause_74 : decode cX3_readClause 74 = .ok (.getfield 79, 3) := by decide +kernel
theorem dX3_readClause_77 : decode cX3_readClause 77 = .ok (.iastore, 1) := by decide +kernel
theorem dX3_readClause_78 : decode cX3_readClause 78 = .ok (.aload_n 0, 1) := by decide +kernel
theorem dX3_readClause_79 : decode cX3_readClause 79 = .ok (.iconst 0, 1) := by decide +kernel
theorem dX3_readClause_80 : decode cX3_readClause 80 = .ok (.invokevirtual 82, 3) := by decide +kernel
theorem dX3_readClause_83 : decode cX3_readClause 83 = .ok (.aload_n 0, 1) := by decide +kernel
theorem dX3_readClause_84 : decode cX3_readClause 84 = .ok (.getfield 14, 3) := by decide +kernel
theorem dX3_readClause_87 : decode cX3_readClause 87 = .ok (.iconst 0, 1) := by decide +kernel
theorem dX3_readClause_88 : decode cX3_readClause 88 = .ok (.iconst 0, 1) := by decide +kernel
theorem dX3_readClause_89 : decode cX3_readClause 89 = .ok (.invokevirtual 86, 3) := by decide +kernel
theorem dX3_readClause_92 : decode cX3_readClause 92 = .ok (.pop, 1) := by decide +kernel
theorem dX3_readClause_93 : decode cX3_readClause 93 = .ok (.goto 9, 3) := by decide +kernel
theorem dX3_readClause_96 : decode cX3_readClause 96 = .ok (.aload_n 0, 1) := by decide +kernel
theorem dX3_readClause_97 : decode cX3_readClause 97 = .ok (.iload_n 2, 1) := by decide +kernel
theorem dX3_readClause_98 : decode cX3_readClause 98 = .ok (.iload_n 1, 1) := by decide +kernel
theorem dX3_readClause_99 : decode cX3_readClause 99 = .ok (.invokevirtual 90, 3) := by decide +kernel
theorem dX3_readClause_102 : decode cX3_readClause 102 = .ok (.aload_n 0, 1) := by decide +kernel
theorem dX3_readClause_103 : decode cX3_readClause 103 = .ok (.ldc 93, 2) := by decide +kernel
theorem dX3_readClause_105 : decode cX3_readClause 105 = .ok (.invokevirtual 95, 3) := by decide +kernel
theorem dX3_readClause_108 : decode cX3_readClause 108 = .ok (.ifCond .eq 34, 3) := by decide +kernel
theorem dX3_readClause_111 : decode cX3_readClause 111 = .ok (.aload_n 0, 1) := by decide +kernel
theorem dX3_readClause_112 : decode cX3_readClause 112 = .ok (.getfield 14, 3) := by decide +kernel
theorem dX3_readClause_115 : decode cX3_readClause 115 = .ok (.getfield 99, 3) := by decide +kernel
theorem dX3_readClause_118 : decode cX3_readClause 118 = .ok (.iload_n 2, 1) := by decide +kernel
theorem dX3_readClause_119 : decode cX3_readClause 119 = .ok (.aload_n 0, 1) := by decide +kernel
theorem dX3_readClause_120 : decode cX3_readClause 120 = .ok (.getfield 14, 3) := by decide +kernel
theorem dX3_readClause_123 : decode cX3_readClause 123 = .ok (.getfield 79, 3) := by decide +kernel
theorem dX3_readClause_126 : decode cX3_readClause 126 = .ok (.iastore, 1) := by decide +kernel
theorem dX3_readClause_127 : decode cX3_readClause 127 = .ok (.aload_n 0, 1) := by decide +kernel
theorem dX3_readClause_128 : decode cX3_readClause 128 = .ok (.iconst 0, 1) := by decide +kernel
theorem dX3_readClause_129 : decode cX3_readClause 129 = .ok (.invokevirtual 102, 3) := by decide +kernel
theorem dX3_readClause_132 : decode cX3_readClause 132 = .ok (.aload_n 0, 1) := by decide +kernel
theorem dX3_readClause_133 : decode cX3_readClause 133 = .ok (.getfield 14, 3) := by decide +kernel
theorem dX3_readClause_136 : decode cX3_readClause 136 = .ok (.iconst 0, 1) := by decide +kernel
theorem dX3_readClause_137 : decode cX3_readClause 137 = .ok (.iconst 0, 1) := by decide +kernel
theorem dX3_readClause_138 : decode cX3_readClause 138 = .ok (.invokevirtual 86, 3) := by decide +kernel
theorem dX3_readClause_141 : decode cX3_readClause 141 = .ok (.pop, 1) := by decide +kernel
theorem dX3_readClause_142 : decode cX3_readClause 142 = .ok (.return_, 1) := by decide +kernel
theorem dX3_readOrder_0 : decode cX3_readOrder 0 = .ok (.iload_n 2, 1) := by decide +kernel
theorem dX3_readOrder_1 : decode cX3_readOrder 1 = .ok (.iconst 3, 1) := by decide +kernel
theorem dX3_readOrder_2 : decode cX3_readOrder 2 = .ok (.if_icmp .eq 34, 3) := by decide +kernel
theorem dX3_readOrder_5 : decode cX3_readOrder 5 = .ok (.aload_n 0, 1) := by decide +kernel
theorem dX3_readOrder_6 : decode cX3_readOrder 6 = .ok (.getfield 14, 3) := by decide +kernel
theorem dX3_readOrder_9 : decode cX3_readOrder 9 = .ok (.getfield 75, 3) := by decide +kernel
theorem dX3_readOrder_12 : decode cX3_readOrder 12 = .ok (.iload_n 1, 1) := by decide +kernel
theorem dX3_readOrder_13 : decode cX3_readOrder 13 = .ok (.aload_n 0, 1) := by decide +kernel
theorem dX3_readOrder_14 : decode cX3_readOrder 14 = .ok (.getfield 14, 3) := by decide +kernel
theorem dX3_readOrder_17 : decode cX3_readOrder 17 = .ok (.getfield 79, 3) := by decide +kernel
theorem dX3_readOrder_20 : decode cX3_readOrder 20 = .ok (.iastore, 1) := by decide +kernel
theorem dX3_readOrder_21 : decode cX3_readOrder 21 = .ok (.aload_n 0, 1) := by decide +kernel
theorem dX3_readOrder_22 : decode cX3_readOrder 22 = .ok (.iconst 0, 1) := by decide +kernel
theorem dX3_readOrder_23 : decode cX3_readOrder 23 = .ok (.invokevirtual 82, 3) := by decide +kernel
theorem dX3_readOrder_26 : decode cX3_readOrder 26 = .ok (.aload_n 0, 1) := by decide +kernel
theorem dX3_readOrder_27 : decode cX3_readOrder 27 = .ok (.getfield 14, 3) := by decide +kernel
theorem dX3_readOrder_30 : decode cX3_readOrder 30 = .ok (.iconst 0, 1) := by decide +kernel
theorem dX3_readOrder_31 : decode cX3_readOrder 31 = .ok (.iconst 0, 1) := by decide +kernel
theorem dX3_readOrder_32 : decode cX3_readOrder 32 = .ok (.invokevirtual 86, 3) := by decide +kernel
theorem dX3_readOrder_35 : decode cX3_readOrder 35 = .ok (.pop, 1) := by decide +kernel
theorem dX3_readOrder_36 : decode cX3_readOrder 36 = .ok (.iload_n 2, 1) := by decide +kernel
theorem dX3_readOrder_37 : decode cX3_readOrder 37 = .ok (.ifCond .eq 8, 3) := by decide +kernel
theorem dX3_readOrder_40 : decode cX3_readOrder 40 = .ok (.iload_n 2, 1) := by decide +kernel
theorem dX3_readOrder_41 : decode cX3_readOrder 41 = .ok (.iconst 1, 1) := by decide +kernel
theorem dX3_readOrder_42 : decode cX3_readOrder 42 = .ok (.if_icmp .ne 56, 3) := by decide +kernel
theorem dX3_readOrder_45 : decode cX3_readOrder 45 = .ok (.aload_n 0, 1) := by decide +kernel
theorem dX3_readOrder_46 : decode cX3_readOrder 46 = .ok (.iload_n 2, 1) := by decide +kernel
theorem dX3_readOrder_47 : decode cX3_readOrder 47 = .ok (.ifCond .ne 8, 3) := by decide +kernel
theorem dX3_readOrder_50 : decode cX3_readOrder 50 = .ok (.ldc 105, 2) := by decide +kernel
theorem dX3_readOrder_52 : decode cX3_readOrder 52 = .ok (.goto 5, 3) := by decide +kernel
theorem dX3_readOrder_55 : decode cX3_readOrder 55 = .ok (.ldc 107, 2) := by decide +kernel
theorem dX3_readOrder_57 : decode cX3_readOrder 57 = .ok (.invokevirtual 95, 3) := by decide +kernel
theorem dX3_readOrder_60 : decode cX3_readOrder 60 = .ok (.ifCond .ne 7, 3) := by decide +kernel
theorem dX3_readOrder_63 : decode cX3_readOrder 63 = .ok (.aload_n 0, 1) := by decide +kernel
theorem dX3_readOrder_64 : decode cX3_readOrder 64 = .ok (.invokevirtual 60, 3) := by decide +kernel
theorem dX3_readOrder_67 : decode cX3_readOrder 67 = .ok (.aload_n 0, 1) := by decide +kernel
theorem dX3_readOrder_68 : decode cX3_readOrder 68 = .ok (.getfield 14, 3) := by decide +kernel
theorem dX3_readOrder_71 : decode cX3_readOrder 71 = .ok (.getfield 109, 3) := by decide +kernel
theorem dX3_readOrder_74 : decode cX3_readOrder 74 = .ok (.iload_n 1, 1) := by decide +kernel
theorem dX3_readOrder_75 : decode cX3_readOrder 75 = .ok (.aload_n 0, 1) := by decide +kernel
theorem dX3_readOrder_76 : decode cX3_readOrder 76 = .ok (.getfield 14, 3) := by decide +kernel
theorem dX3_readOrder_79 : decode cX3_readOrder 79 = .ok (.getfield 79, 3) := by decide +kernel
theorem dX3_readOrder_82 : decode cX3_readOrder 82 = .ok (.iastore, 1) := by decide +kernel
theorem dX3_readOrder_83 : decode cX3_readOrder 83 = .ok (.aload_n 0, 1) := by decide +kernel
theorem dX3_readOrder_84 : decode cX3_readOrder 84 = .ok (.iconst 0, 1) := by decide +kernel
theorem dX3_readOrder_85 : decode cX3_readOrder 85 = .ok (.invokevirtual 82, 3) := by decide +kernel
theorem dX3_readOrder_88 : decode cX3_readOrder 88 = .ok (.aload_n 0, 1) := by decide +kernel
theorem dX3_readOrder_89 : decode cX3_readOrder 89 = .ok (.getfield 14, 3) := by decide +kernel
theorem dX3_readOrder_92 : decode cX3_readOrder 92 = .ok (.iconst 0, 1) := by decide +kernel
theorem dX3_readOrder_93 : decode cX3_readOrder 93 = .ok (.iconst 0, 1) := by decide +kernel
theorem dX3_readOrder_94 : decode cX3_readOrder 94 = .ok (.invokevirtual 86, 3) := by decide +kernel
theorem dX3_readOrder_97 : decode cX3_readOrder 97 = .ok (.pop, 1) := by decide +kernel
theorem dX3_readOrder_98 : decode cX3_readOrder 98 = .ok (.aload_n 0, 1) := by decide +kernel
theorem dX3_readOrder_99 : decode cX3_readOrder 99 = .ok (.ldc 112, 2) := by decide +kernel
theorem dX3_readOrder_101 : decode cX3_readOrder 101 = .ok (.invokevirtual 95, 3) := by decide +kernel
theorem dX3_readOrder_104 : decode cX3_readOrder 104 = .ok (.ifCond .eq 50, 3) := by decide +kernel
theorem dX3_readOrder_107 : decode cX3_readOrder 107 = .ok (.aload_n 0, 1) := by decide +kernel
theorem dX3_readOrder_108 : decode cX3_readOrder 108 = .ok (.getfield 24, 3) := by decide +kernel
theorem dX3_readOrder_111 : decode cX3_readOrder 111 = .ok (.iconst 2, 1) := by decide +kernel
theorem dX3_readOrder_112 : decode cX3_readOrder 112 = .ok (.if_icmp .ne 20, 3) := by decide +kernel
theorem dX3_readOrder_115 : decode cX3_readOrder 115 = .ok (.aload_n 0, 1) := by decide +kernel
theorem dX3_readOrder_116 : decode cX3_readOrder 116 = .ok (.getfield 34, 3) := by decide +kernel
theorem dX3_readOrder_119 : decode cX3_readOrder 119 = .ok (.iconst 1, 1) := by decide +kernel
theorem dX3_readOrder_120 : decode cX3_readOrder 120 = .ok (.if_icmp .lt 12, 3) := by decide +kernel
theorem dX3_readOrder_123 : decode cX3_readOrder 123 = .ok (.aload_n 0, 1) := by decide +kernel
theorem dX3_readOrder_124 : decode cX3_readOrder 124 = .ok (.getfield 34, 3) := by decide +kernel
theorem dX3_readOrder_127 : decode cX3_readOrder 127 = .ok (.bipush 20, 2) := by decide +kernel
theorem dX3_readOrder_129 : decode cX3_readOrder 129 = .ok (.if_icmp .le 8, 3) := by decide +kernel
theorem dX3_readOrder_132 : decode cX3_readOrder 132 = .ok (.aload_n 0, 1) := by decide +kernel
theorem dX3_readOrder_133 : decode cX3_readOrder 133 = .ok (.invokevirtual 60, 3) := by decide +kernel
theorem dX3_readOrder_136 : decode cX3_readOrder 136 = .ok (.return_, 1) := by decide +kernel
theorem dX3_readOrder_137 : decode cX3_readOrder 137 = .ok (.aload_n 0, 1) := by decide +kernel
theorem dX3_readOrder_138 : decode cX3_readOrder 138 = .ok (.getfield 14, 3) := by decide +kernel
theorem dX3_readOrder_141 : decode cX3_readOrder 141 = .ok (.getfield 114, 3) := by decide +kernel
theorem dX3_readOrder_144 : decode cX3_readOrder 144 = .ok (.iload_n 1, 1) := by decide +kernel
theorem dX3_readOrder_145 : decode cX3_readOrder 145 = .ok (.aload_n 0, 1) := by decide +kernel
theorem dX3_readOrder_146 : decode cX3_readOrder 146 = .ok (.getfield 34, 3) := by decide +kernel
theorem dX3_readOrder_149 : decode cX3_readOrder 149 = .ok (.iastore, 1) := by decide +kernel
theorem dX3_readOrder_150 : decode cX3_readOrder 150 = .ok (.aload_n 0, 1) := by decide +kernel
theorem dX3_readOrder_151 : decode cX3_readOrder 151 = .ok (.invokevirtual 50, 3) := by decide +kernel
theorem dX3_readOrder_154 : decode cX3_readOrder 154 = .ok (.return_, 1) := by decide +kernel
theorem dX3_readTest_0 : decode cX3_readTest 0 = .ok (.aload_n 0, 1) := by decide +kernel
theorem dX3_readTest_1 : decode cX3_readTest 1 = .ok (.iload_n 1, 1) := by decide +kernel
theorem dX3_readTest_2 : decode cX3_readTest 2 = .ok (.invokevirtual 116, 3) := by decide +kernel
theorem dX3_readTest_5 : decode cX3_readTest 5 = .ok (.iconst 0, 1) := by decide +kernel
theorem dX3_readTest_6 : decode cX3_readTest 6 = .ok (.istore_n 2, 1) := by decide +kernel
theorem dX3_readTest_7 : decode cX3_readTest 7 = .ok (.iload_n 2, 1) := by decide +kernel
theorem dX3_readTest_8 : decode cX3_readTest 8 = .ok (.sipush 400, 3) := by decide +kernel
theorem dX3_readTest_11 : decode cX3_readTest 11 = .ok (.if_icmp .ge 41, 3) := by decide +kernel
theorem dX3_readTest_14 : decode cX3_readTest 14 = .ok (.aload_n 0, 1) := by decide +kernel
theorem dX3_readTest_15 : decode cX3_readTest 15 = .ok (.ldc 119, 2) := by decide +kernel
theorem dX3_readTest_17 : decode cX3_readTest 17 = .ok (.invokevirtual 95, 3) := by decide +kernel
theorem dX3_readTest_20 : decode cX3_readTest 20 = .ok (.ifCond .eq 32, 3) := by decide +kernel
theorem dX3_readTest_23 : decode cX3_readTest 23 = .ok (.aload_n 0, 1) := by decide +kernel
theorem dX3_readTest_24 : decode cX3_readTest 24 = .ok (.getfield 14, 3) := by decide +kernel
theorem dX3_readTest_27 : decode cX3_readTest 27 = .ok (.iconst 4, 1) := by decide +kernel
theorem dX3_readTest_28 : decode cX3_readTest 28 = .ok (.iconst 0, 1) := by decide +kernel
theorem dX3_readTest_29 : decode cX3_readTest 29 = .ok (.invokevirtual 86, 3) := by decide +kernel
theorem dX3_readTest_32 : decode cX3_readTest 32 = .ok (.istore_n 3, 1) := by decide +kernel
theorem dX3_readTest_33 : decode cX3_readTest 33 = .ok (.aload_n 0, 1) := by decide +kernel
theorem dX3_readTest_34 : decode cX3_readTest 34 = .ok (.iload_n 1, 1) := by decide +kernel
theorem dX3_readTest_35 : decode cX3_readTest 35 = .ok (.invokevirtual 116, 3) := by decide +kernel
theorem dX3_readTest_38 : decode cX3_readTest 38 = .ok (.aload_n 0, 1) := by decide +kernel
theorem dX3_readTest_39 : decode cX3_readTest 39 = .ok (.getfield 14, 3) := by decide +kernel
theorem dX3_readTest_42 : decode cX3_readTest 42 = .ok (.iload_n 3, 1) := by decide +kernel
theorem dX3_readTest_43 : decode cX3_readTest 43 = .ok (.invokevirtual 121, 3) := by decide +kernel
theorem dX3_readTest_46 : decode cX3_readTest 46 = .ok (.iinc 2 1, 3) := by decide +kernel
theorem dX3_readTest_49 : decode cX3_readTest 49 = .ok (.goto (-42), 3) := by decide +kernel
theorem dX3_readTest_52 : decode cX3_readTest 52 = .ok (.return_, 1) := by decide +kernel
theorem dX3_readBoth_0 : decode cX3_readBoth 0 = .ok (.aload_n 0, 1) := by decide +kernel
theorem dX3_readBoth_1 : decode cX3_readBoth 1 = .ok (.iload_n 1, 1) := by decide +kernel
theorem dX3_readBoth_2 : decode cX3_readBoth 2 = .ok (.invokevirtual 124, 3) := by decide +kernel
theorem dX3_readBoth_5 : decode cX3_readBoth 5 = .ok (.iconst 0, 1) := by decide +kernel
theorem dX3_readBoth_6 : decode cX3_readBoth 6 = .ok (.istore_n 2, 1) := by decide +kernel
theorem dX3_readBoth_7 : decode cX3_readBoth 7 = .ok (.iload_n 2, 1) := by decide +kernel
theorem dX3_readBoth_8 : decode cX3_readBoth 8 = .ok (.sipush 400, 3) := by decide +kernel
theorem dX3_readBoth_11 : decode cX3_readBoth 11 = .ok (.if_icmp .ge 41, 3) := by decide +kernel
theorem dX3_readBoth_14 : decode cX3_readBoth 14 = .ok (.aload_n 0, 1) := by decide +kernel
theorem dX3_readBoth_15 : decode cX3_readBoth 15 = .ok (.ldc 127, 2) := by decide +kernel
theorem dX3_readBoth_17 : decode cX3_readBoth 17 = .ok (.invokevirtual 95, 3) := by decide +kernel
theorem dX3_readBoth_20 : decode cX3_readBoth 20 = .ok (.ifCond .eq 32, 3) := by decide +kernel
theorem dX3_readBoth_23 : decode cX3_readBoth 23 = .ok (.aload_n 0, 1) := by decide +kernel
theorem dX3_readBoth_24 : decode cX3_readBoth 24 = .ok (.getfield 14, 3) := by decide +kernel
theorem dX3_readBoth_27 : decode cX3_readBoth 27 = .ok (.iconst 5, 1) := by decide +kernel
theorem dX3_readBoth_28 : decode cX3_readBoth 28 = .ok (.iconst 0, 1) := by decide +kernel
theorem dX3_readBoth_29 : decode cX3_readBoth 29 = .ok (.invokevirtual 86, 3) := by decide +kernel
theorem dX3_readBoth_32 : decode cX3_readBoth 32 = .ok (.istore_n 3, 1) := by decide +kernel
theorem dX3_readBoth_33 : decode cX3_readBoth 33 = .ok (.aload_n 0, 1) := by decide +kernel
theorem dX3_readBoth_34 : decode cX3_readBoth 34 = .ok (.iload_n 1, 1) := by decide +kernel
theorem dX3_readBoth_35 : decode cX3_readBoth 35 = .ok (.invokevirtual 124, 3) := by decide +kernel
theorem dX3_readBoth_38 : decode cX3_readBoth 38 = .ok (.aload_n 0, 1) := by decide +kernel
theorem dX3_readBoth_39 : decode cX3_readBoth 39 = .ok (.getfield 14, 3) := by decide +kernel
theorem dX3_readBoth_42 : decode cX3_readBoth 42 = .ok (.iload_n 3, 1) := by decide +kernel
theorem dX3_readBoth_43 : decode cX3_readBoth 43 = .ok (.invokevirtual 121, 3) := by decide +kernel
theorem dX3_readBoth_46 : decode cX3_readBoth 46 = .ok (.iinc 2 1, 3) := by decide +kernel
theorem dX3_readBoth_49 : decode cX3_readBoth 49 = .ok (.goto (-42), 3) := by decide +kernel
theorem dX3_readBoth_52 : decode cX3_readBoth 52 = .ok (.return_, 1) := by decide +kernel
theorem dX3_readPlain_0 : decode cX3_readPlain 0 = .ok (.iconst 0, 1) := by decide +kernel
theorem dX3_readPlain_1 : decode cX3_readPlain 1 = .ok (.istore_n 2, 1) := by decide +kernel
theorem dX3_readPlain_2 : decode cX3_readPlain 2 = .ok (.iconst 0, 1) := by decide +kernel
theorem dX3_readPlain_3 : decode cX3_readPlain 3 = .ok (.istore_n 3, 1) := by decide +kernel
theorem dX3_readPlain_4 : decode cX3_readPlain 4 = .ok (.iload_n 3, 1) := by decide +kernel
theorem dX3_readPlain_5 : decode cX3_readPlain 5 = .ok (.sipush 400, 3) := by decide +kernel
theorem dX3_readPlain_8 : decode cX3_readPlain 8 = .ok (.if_icmp .ge 28, 3) := by decide +kernel
theorem dX3_readPlain_11 : decode cX3_readPlain 11 = .ok (.aload_n 0, 1) := by decide +kernel
theorem dX3_readPlain_12 : decode cX3_readPlain 12 = .ok (.ldc 129, 2) := by decide +kernel
theorem dX3_readPlain_14 : decode cX3_readPlain 14 = .ok (.invokevirtual 95, 3) := by decide +kernel
theorem dX3_readPlain_17 : decode cX3_readPlain 17 = .ok (.ifCond .eq 19, 3) := by decide +kernel
theorem dX3_readPlain_20 : decode cX3_readPlain 20 = .ok (.iload_n 2, 1) := by decide +kernel
theorem dX3_readPlain_21 : decode cX3_readPlain 21 = .ok (.ifCond .ne 7, 3) := by decide +kernel
theorem dX3_readPlain_24 : decode cX3_readPlain 24 = .ok (.iconst 1, 1) := by decide +kernel
theorem dX3_readPlain_25 : decode cX3_readPlain 25 = .ok (.goto 4, 3) := by decide +kernel
theorem dX3_readPlain_28 : decode cX3_readPlain 28 = .ok (.iconst 0, 1) := by decide +kernel
theorem dX3_readPlain_29 : decode cX3_readPlain 29 = .ok (.istore_n 2, 1) := by decide +kernel
theorem dX3_readPlain_30 : decode cX3_readPlain 30 = .ok (.iinc 3 1, 3) := by decide +kernel
theorem dX3_readPlain_33 : decode cX3_readPlain 33 = .ok (.goto (-29), 3) := by decide +kernel
theorem dX3_readPlain_36 : decode cX3_readPlain 36 = .ok (.aload_n 0, 1) := by decide +kernel
theorem dX3_readPlain_37 : decode cX3_readPlain 37 = .ok (.bipush 40, 2) := by decide +kernel
theorem dX3_readPlain_39 : decode cX3_readPlain 39 = .ok (.invokevirtual 131, 3) := by decide +kernel
theorem dX3_readPlain_42 : decode cX3_readPlain 42 = .ok (.ifCond .eq 41, 3) := by decide +kernel
theorem dX3_readPlain_45 : decode cX3_readPlain 45 = .ok (.iload_n 1, 1) := by decide +kernel
theorem dX3_readPlain_46 : decode cX3_readPlain 46 = .ok (.bipush 8, 2) := by decide +kernel
theorem dX3_readPlain_48 : decode cX3_readPlain 48 = .ok (.if_icmp .lt 8, 3) := by decide +kernel
theorem dX3_readPlain_51 : decode cX3_readPlain 51 = .ok (.aload_n 0, 1) := by decide +kernel
theorem dX3_readPlain_52 : decode cX3_readPlain 52 = .ok (.invokevirtual 60, 3) := by decide +kernel
theorem dX3_readPlain_55 : decode cX3_readPlain 55 = .ok (.return_, 1) := by decide +kernel
theorem dX3_readPlain_56 : decode cX3_readPlain 56 = .ok (.aload_n 0, 1) := by decide +kernel
theorem dX3_readPlain_57 : decode cX3_readPlain 57 = .ok (.invokevirtual 50, 3) := by decide +kernel
theorem dX3_readPlain_60 : decode cX3_readPlain 60 = .ok (.aload_n 0, 1) := by decide +kernel
theorem dX3_readPlain_61 : decode cX3_readPlain 61 = .ok (.iload_n 1, 1) := by decide +kernel
theorem dX3_readPlain_62 : decode cX3_readPlain 62 = .ok (.iconst 1, 1) := by decide +kernel
theorem dX3_readPlain_63 : decode cX3_readPlain 63 = .ok (.iadd, 1) := by decide +kernel
theorem dX3_readPlain_64 : decode cX3_readPlain 64 = .ok (.invokevirtual 102, 3) := by decide +kernel
theorem dX3_readPlain_67 : decode cX3_readPlain 67 = .ok (.aload_n 0, 1) := by decide +kernel
theorem dX3_readPlain_68 : decode cX3_readPlain 68 = .ok (.bipush 41, 2) := by decide +kernel
theorem dX3_readPlain_70 : decode cX3_readPlain 70 = .ok (.invokevirtual 56, 3) := by decide +kernel
theorem dX3_readPlain_73 : decode cX3_readPlain 73 = .ok (.ifCond .ne 61, 3) := by decide +kernel
theorem dX3_readPlain_76 : decode cX3_readPlain 76 = .ok (.aload_n 0, 1) := by decide +kernel
theorem dX3_readPlain_77 : decode cX3_readPlain 77 = .ok (.invokevirtual 60, 3) := by decide +kernel
theorem dX3_readPlain_80 : decode cX3_readPlain 80 = .ok (.goto 54, 3) := by decide +kernel
theorem dX3_readPlain_83 : decode cX3_readPlain 83 = .ok (.aload_n 0, 1) := by decide +kernel
theorem dX3_readPlain_84 : decode cX3_readPlain 84 = .ok (.iload_n 1, 1) := by decide +kernel
theorem dX3_readPlain_85 : decode cX3_readPlain 85 = .ok (.invokevirtual 82, 3) := by decide +kernel
theorem dX3_readPlain_88 : decode cX3_readPlain 88 = .ok (.aload_n 0, 1) := by decide +kernel
theorem dX3_readPlain_89 : decode cX3_readPlain 89 = .ok (.bipush 60, 2) := by decide +kernel
theorem dX3_readPlain_91 : decode cX3_readPlain 91 = .ok (.bipush 11, 2) := by decide +kernel
theorem dX3_readPlain_93 : decode cX3_readPlain 93 = .ok (.bipush 62, 2) := by decide +kernel
theorem dX3_readPlain_95 : decode cX3_readPlain 95 = .ok (.bipush 12, 2) := by decide +kernel
theorem dX3_readPlain_97 : decode cX3_readPlain 97 = .ok (.bipush 61, 2) := by decide +kernel
theorem dX3_readPlain_99 : decode cX3_readPlain 99 = .ok (.bipush 13, 2) := by decide +kernel
theorem dX3_readPlain_101 : decode cX3_readPlain 101 = .ok (.invokevirtual 134, 3) := by decide +kernel
theorem dX3_readPlain_104 : decode cX3_readPlain 104 = .ok (.istore_n 3, 1) := by decide +kernel
theorem dX3_readPlain_105 : decode cX3_readPlain 105 = .ok (.iload_n 3, 1) := by decide +kernel
theorem dX3_readPlain_106 : decode cX3_readPlain 106 = .ok (.iconst (-1), 1) := by decide +kernel
theorem dX3_readPlain_107 : decode cX3_readPlain 107 = .ok (.if_icmp .ne 8, 3) := by decide +kernel
theorem dX3_readPlain_110 : decode cX3_readPlain 110 = .ok (.aload_n 0, 1) := by decide +kernel
theorem dX3_readPlain_111 : decode cX3_readPlain 111 = .ok (.invokevirtual 60, 3) := by decide +kernel
theorem dX3_readPlain_114 : decode cX3_readPlain 114 = .ok (.return_, 1) := by decide +kernel
theorem dX3_readPlain_115 : decode cX3_readPlain 115 = .ok (.aload_n 0, 1) := by decide +kernel
theorem dX3_readPlain_116 : decode cX3_readPlain 116 = .ok (.invokevirtual 50, 3) := by decide +kernel
theorem dX3_readPlain_119 : decode cX3_readPlain 119 = .ok (.aload_n 0, 1) := by decide +kernel
theorem dX3_readPlain_120 : decode cX3_readPlain 120 = .ok (.iload_n 1, 1) := by decide +kernel
theorem dX3_readPlain_121 : decode cX3_readPlain 121 = .ok (.invokevirtual 82, 3) := by decide +kernel
theorem dX3_readPlain_124 : decode cX3_readPlain 124 = .ok (.aload_n 0, 1) := by decide +kernel
theorem dX3_readPlain_125 : decode cX3_readPlain 125 = .ok (.getfield 14, 3) := by decide +kernel
theorem dX3_readPlain_128 : decode cX3_readPlain 128 = .ok (.iload_n 3, 1) := by decide +kernel
theorem dX3_readPlain_129 : decode cX3_readPlain 129 = .ok (.iconst 0, 1) := by decide +kernel
theorem dX3_readPlain_130 : decode cX3_readPlain 130 = .ok (.invokevirtual 86, 3) := by decide +kernel
theorem dX3_readPlain_133 : decode cX3_readPlain 133 = .ok (.pop, 1) := by decide +kernel
theorem dX3_readPlain_134 : decode cX3_readPlain 134 = .ok (.iload_n 2, 1) := by decide +kernel
theorem dX3_readPlain_135 : decode cX3_readPlain 135 = .ok (.ifCond .eq 13, 3) := by decide +kernel
theorem dX3_readPlain_138 : decode cX3_readPlain 138 = .ok (.aload_n 0, 1) := by decide +kernel
theorem dX3_readPlain_139 : decode cX3_readPlain 139 = .ok (.getfield 14, 3) := by decide +kernel
theorem dX3_readPlain_142 : decode cX3_readPlain 142 = .ok (.iconst 3, 1) := by decide +kernel
theorem dX3_readPlain_143 : decode cX3_readPlain 143 = .ok (.iconst 0, 1) := by decide +kernel
theorem dX3_readPlain_144 : decode cX3_readPlain 144 = .ok (.invokevirtual 86, 3) := by decide +kernel
theorem dX3_readPlain_147 : decode cX3_readPlain 147 = .ok (.pop, 1) := by decide +kernel
theorem dX3_readPlain_148 : decode cX3_readPlain 148 = .ok (.return_, 1) := by decide +kernel
theorem dX3_readSum_0 : decode cX3_readSum 0 = .ok (.aload_n 0, 1) := by decide +kernel
theorem dX3_readSum_1 : decode cX3_readSum 1 = .ok (.iload_n 1, 1) := by decide +kernel
theorem dX3_readSum_2 : decode cX3_readSum 2 = .ok (.invokevirtual 138, 3) := by decide +kernel
theorem dX3_readSum_5 : decode cX3_readSum 5 = .ok (.aload_n 0, 1) := by decide +kernel
theorem dX3_readSum_6 : decode cX3_readSum 6 = .ok (.bipush 43, 2) := by decide +kernel
theorem dX3_readSum_8 : decode cX3_readSum 8 = .ok (.bipush 6, 2) := by decide +kernel
theorem dX3_readSum_10 : decode cX3_readSum 10 = .ok (.bipush 45, 2) := by decide +kernel
theorem dX3_readSum_12 : decode cX3_readSum 12 = .ok (.bipush 7, 2) := by decide +kernel
theorem dX3_readSum_14 : decode cX3_readSum 14 = .ok (.bipush 45, 2) := by decide +kernel
theorem dX3_readSum_16 : decode cX3_readSum 16 = .ok (.bipush 7, 2) := by decide +kernel
theorem dX3_readSum_18 : decode cX3_readSum 18 = .ok (.invokevirtual 134, 3) := by decide +kernel
theorem dX3_readSum_21 : decode cX3_readSum 21 = .ok (.istore_n 2, 1) := by decide +kernel
theorem dX3_readSum_22 : decode cX3_readSum 22 = .ok (.iconst 0, 1) := by decide +kernel
theorem dX3_readSum_23 : decode cX3_readSum 23 = .ok (.istore_n 3, 1) := by decide +kernel
theorem dX3_readSum_24 : decode cX3_readSum 24 = .ok (.iload_n 3, 1) := by decide +kernel
theorem dX3_readSum_25 : decode cX3_readSum 25 = .ok (.sipush 400, 3) := by decide +kernel
theorem dX3_readSum_28 : decode cX3_readSum 28 = .ok (.if_icmp .ge 50, 3) := by decide +kernel
theorem dX3_readSum_31 : decode cX3_readSum 31 = .ok (.iload_n 2, 1) := by decide +kernel
theorem dX3_readSum_32 : decode cX3_readSum 32 = .ok (.iconst (-1), 1) := by decide +kernel
theorem dX3_readSum_33 : decode cX3_readSum 33 = .ok (.if_icmp .eq 45, 3) := by decide +kernel
theorem dX3_readSum_36 : decode cX3_readSum 36 = .ok (.aload_n 0, 1) := by decide +kernel
theorem dX3_readSum_37 : decode cX3_readSum 37 = .ok (.invokevirtual 50, 3) := by decide +kernel
theorem dX3_readSum_40 : decode cX3_readSum 40 = .ok (.aload_n 0, 1) := by decide +kernel
theorem dX3_readSum_41 : decode cX3_readSum 41 = .ok (.iload_n 1, 1) := by decide +kernel
theorem dX3_readSum_42 : decode cX3_readSum 42 = .ok (.invokevirtual 138, 3) := by decide +kernel
theorem dX3_readSum_45 : decode cX3_readSum 45 = .ok (.aload_n 0, 1) := by decide +kernel
theorem dX3_readSum_46 : decode cX3_readSum 46 = .ok (.getfield 14, 3) := by decide +kernel
theorem dX3_readSum_49 : decode cX3_readSum 49 = .ok (.iload_n 2, 1) := by decide +kernel
theorem dX3_readSum_50 : decode cX3_readSum 50 = .ok (.iconst 0, 1) := by decide +kernel
theorem dX3_readSum_51 : decode cX3_readSum 51 = .ok (.invokevirtual 86, 3) := by decide +kernel
theorem dX3_readSum_54 : decode cX3_readSum 54 = .ok (.pop, 1) := by decide +kernel
theorem dX3_readSum_55 : decode cX3_readSum 55 = .ok (.aload_n 0, 1) := by decide +kernel
theorem dX3_readSum_56 : decode cX3_readSum 56 = .ok (.bipush 43, 2) := by decide +kernel
theorem dX3_readSum_58 : decode cX3_readSum 58 = .ok (.bipush 6, 2) := by decide +kernel
theorem dX3_readSum_60 : decode cX3_readSum 60 = .ok (.bipush 45, 2) := by decide +kernel
theorem dX3_readSum_62 : decode cX3_readSum 62 = .ok (.bipush 7, 2) := by decide +kernel
theorem dX3_readSum_64 : decode cX3_readSum 64 = .ok (.bipush 45, 2) := by decide +kernel
theorem dX3_readSum_66 : decode cX3_readSum 66 = .ok (.bipush 7, 2) := by decide +kernel
theorem dX3_readSum_68 : decode cX3_readSum 68 = .ok (.invokevirtual 134, 3) := by decide +kernel
theorem dX3_readSum_71 : decode cX3_readSum 71 = .ok (.istore_n 2, 1) := by decide +kernel
theorem dX3_readSum_72 : decode cX3_readSum 72 = .ok (.iinc 3 1, 3) := by decide +kernel
theorem dX3_readSum_75 : decode cX3_readSum 75 = .ok (.goto (-51), 3) := by decide +kernel
theorem dX3_readSum_78 : decode cX3_readSum 78 = .ok (.return_, 1) := by decide +kernel
theorem dX3_readTerm_0 : decode cX3_readTerm 0 = .ok (.aload_n 0, 1) := by decide +kernel
theorem dX3_readTerm_1 : decode cX3_readTerm 1 = .ok (.iload_n 1, 1) := by decide +kernel
theorem dX3_readTerm_2 : decode cX3_readTerm 2 = .ok (.invokevirtual 141, 3) := by decide +kernel
theorem dX3_readTerm_5 : decode cX3_readTerm 5 = .ok (.aload_n 0, 1) := by decide +kernel
theorem dX3_readTerm_6 : decode cX3_readTerm 6 = .ok (.bipush 42, 2) := by decide +kernel
theorem dX3_readTerm_8 : decode cX3_readTerm 8 = .ok (.bipush 8, 2) := by decide +kernel
theorem dX3_readTerm_10 : decode cX3_readTerm 10 = .ok (.bipush 47, 2) := by decide +kernel
theorem dX3_readTerm_12 : decode cX3_readTerm 12 = .ok (.bipush 9, 2) := by decide +kernel
theorem dX3_readTerm_14 : decode cX3_readTerm 14 = .ok (.bipush 37, 2) := by decide +kernel
theorem dX3_readTerm_16 : decode cX3_readTerm 16 = .ok (.bipush 10, 2) := by decide +kernel
theorem dX3_readTerm_18 : decode cX3_readTerm 18 = .ok (.invokevirtual 134, 3) := by decide +kernel
theorem dX3_readTerm_21 : decode cX3_readTerm 21 = .ok (.istore_n 2, 1) := by decide +kernel
theorem dX3_readTerm_22 : decode cX3_readTerm 22 = .ok (.iconst 0, 1) := by decide +kernel
theorem dX3_readTerm_23 : decode cX3_readTerm 23 = .ok (.istore_n 3, 1) := by decide +kernel
theorem dX3_readTerm_24 : decode cX3_readTerm 24 = .ok (.iload_n 3, 1) := by decide +kernel
theorem dX3_readTerm_25 : decode cX3_readTerm 25 = .ok (.sipush 400, 3) := by decide +kernel
theorem dX3_readTerm_28 : decode cX3_readTerm 28 = .ok (.if_icmp .ge 50, 3) := by decide +kernel
theorem dX3_readTerm_31 : decode cX3_readTerm 31 = .ok (.iload_n 2, 1) := by decide +kernel
theorem dX3_readTerm_32 : decode cX3_readTerm 32 = .ok (.iconst (-1), 1) := by decide +kernel
theorem dX3_readTerm_33 : decode cX3_readTerm 33 = .ok (.if_icmp .eq 45, 3) := by decide +kernel
theorem dX3_readTerm_36 : decode cX3_readTerm 36 = .ok (.aload_n 0, 1) := by decide +kernel
theorem dX3_readTerm_37 : decode cX3_readTerm 37 = .ok (.invokevirtual 50, 3) := by decide +kernel
theorem dX3_readTerm_40 : decode cX3_readTerm 40 = .ok (.aload_n 0, 1) := by decide +kernel
theorem dX3_readTerm_41 : decode cX3_readTerm 41 = .ok (.iload_n 1, 1) := by decide +kernel
theorem dX3_readTerm_42 : decode cX3_readTerm 42 = .ok (.invokevirtual 141, 3) := by decide +kernel
theorem dX3_readTerm_45 : decode cX3_readTerm 45 = .ok (.aload_n 0, 1) := by decide +kernel
theorem dX3_readTerm_46 : decode cX3_readTerm 46 = .ok (.getfield 14, 3) := by decide +kernel
theorem dX3_readTerm_49 : decode cX3_readTerm 49 = .ok (.iload_n 2, 1) := by decide +kernel
theorem dX3_readTerm_50 : decode cX3_readTerm 50 = .ok (.iconst 0, 1) := by decide +kernel
theorem dX3_readTerm_51 : decode cX3_readTerm 51 = .ok (.invokevirtual 86, 3) := by decide +kernel
theorem dX3_readTerm_54 : decode cX3_readTerm 54 = .ok (.pop, 1) := by decide +kernel
theorem dX3_readTerm_55 : decode cX3_readTerm 55 = .ok (.aload_n 0, 1) := by decide +kernel
theorem dX3_readTerm_56 : decode cX3_readTerm 56 = .ok (.bipush 42, 2) := by decide +kernel
theorem dX3_readTerm_58 : decode cX3_readTerm 58 = .ok (.bipush 8, 2) := by decide +kernel
theorem dX3_readTerm_60 : decode cX3_readTerm 60 = .ok (.bipush 47, 2) := by decide +kernel
theorem dX3_readTerm_62 : decode cX3_readTerm 62 = .ok (.bipush 9, 2) := by decide +kernel
theorem dX3_readTerm_64 : decode cX3_readTerm 64 = .ok (.bipush 37, 2) := by decide +kernel
theorem dX3_readTerm_66 : decode cX3_readTerm 66 = .ok (.bipush 10, 2) := by decide +kernel
theorem dX3_readTerm_68 : decode cX3_readTerm 68 = .ok (.invokevirtual 134, 3) := by decide +kernel
theorem dX3_readTerm_71 : decode cX3_readTerm 71 = .ok (.istore_n 2, 1) := by decide +kernel
theorem dX3_readTerm_72 : decode cX3_readTerm 72 = .ok (.iinc 3 1, 3) := by decide +kernel
theorem dX3_readTerm_75 : decode cX3_readTerm 75 = .ok (.goto (-51), 3) := by decide +kernel
theorem dX3_readTerm_78 : decode cX3_readTerm 78 = .ok (.return_, 1) := by decide +kernel
theorem dX3_readPart_0 : decode cX3_readPart 0 = .ok (.aload_n 0, 1) := by decide +kernel
theorem dX3_readPart_1 : decode cX3_readPart 1 = .ok (.bipush 91, 2) := by decide +kernel
theorem dX3_readPart_3 : decode cX3_readPart 3 = .ok (.invokevirtual 131, 3) := by decide +kernel
theorem dX3_readPart_6 : decode cX3_readPart 6 = .ok (.ifCond .eq 39, 3) := by decide +kernel
theorem dX3_readPart_9 : decode cX3_readPart 9 = .ok (.iload_n 1, 1) := by decide +kernel
theorem dX3_readPart_10 : decode cX3_readPart 10 = .ok (.bipush 8, 2) := by decide +kernel
theorem dX3_readPart_12 : decode cX3_readPart 12 = .ok (.if_icmp .lt 8, 3) := by decide +kernel
theorem dX3_readPart_15 : decode cX3_readPart 15 = .ok (.aload_n 0, 1) := by decide +kernel
theorem dX3_readPart_16 : decode cX3_readPart 16 = .ok (.invokevirtual 60, 3) := by decide +kernel
theorem dX3_readPart_19 : decode cX3_readPart 19 = .ok (.return_, 1) := by decide +kernel
theorem dX3_readPart_20 : decode cX3_readPart 20 = .ok (.aload_n 0, 1) := by decide +kernel
theorem dX3_readPart_21 : decode cX3_readPart 21 = .ok (.invokevirtual 50, 3) := by decide +kernel
theorem dX3_readPart_24 : decode cX3_readPart 24 = .ok (.aload_n 0, 1) := by decide +kernel
theorem dX3_readPart_25 : decode cX3_readPart 25 = .ok (.iload_n 1, 1) := by decide +kernel
theorem dX3_readPart_26 : decode cX3_readPart 26 = .ok (.iconst 1, 1) := by decide +kernel
theorem dX3_readPart_27 : decode cX3_readPart 27 = .ok (.iadd, 1) := by decide +kernel
theorem dX3_readPart_28 : decode cX3_readPart 28 = .ok (.invokevirtual 82, 3) := by decide +kernel
theorem dX3_readPart_31 : decode cX3_readPart 31 = .ok (.aload_n 0, 1) := by decide +kernel
theorem dX3_readPart_32 : decode cX3_readPart 32 = .ok (.bipush 93, 2) := by decide +kernel
theorem dX3_readPart_34 : decode cX3_readPart 34 = .ok (.invokevirtual 56, 3) := by decide +kernel
theorem dX3_readPart_37 : decode cX3_readPart 37 = .ok (.ifCond .ne 7, 3) := by decide +kernel
theorem dX3_readPart_40 : decode cX3_readPart 40 = .ok (.aload_n 0, 1) := by decide +kernel
theorem dX3_readPart_41 : decode cX3_readPart 41 = .ok (.invokevirtual 60, 3) := by decide +kernel
theorem dX3_readPart_44 : decode cX3_readPart 44 = .ok (.return_, 1) := by decide +kernel
theorem dX3_readPart_45 : decode cX3_readPart 45 = .ok (.aload_n 0, 1) := by decide +kernel
theorem dX3_readPart_46 : decode cX3_readPart 46 = .ok (.aload_n 0, 1) := by decide +kernel
theorem dX3_readPart_47 : decode cX3_readPart 47 = .ok (.getfield 20, 3) := by decide +kernel
theorem dX3_readPart_50 : decode cX3_readPart 50 = .ok (.ifCond .eq 8, 3) := by decide +kernel
theorem dX3_readPart_53 : decode cX3_readPart 53 = .ok (.ldc 144, 2) := by decide +kernel
theorem dX3_readPart_55 : decode cX3_readPart 55 = .ok (.goto 5, 3) := by decide +kernel
theorem dX3_readPart_58 : decode cX3_readPart 58 = .ok (.ldc 146, 2) := by decide +kernel
theorem dX3_readPart_60 : decode cX3_readPart 60 = .ok (.invokevirtual 67, 3) := by decide +kernel
theorem dX3_readPart_63 : decode cX3_readPart 63 = .ok (.istore_n 2, 1) := by decide +kernel
theorem dX3_readPart_64 : decode cX3_readPart 64 = .ok (.aload_n 0, 1) := by decide +kernel
theorem dX3_readPart_65 : decode cX3_readPart 65 = .ok (.getfield 24, 3) := by decide +kernel
theorem dX3_readPart_68 : decode cX3_readPart 68 = .ok (.iconst 2, 1) := by decide +kernel
theorem dX3_readPart_69 : decode cX3_readPart 69 = .ok (.if_icmp .ne 17, 3) := by decide +kernel
theorem dX3_readPart_72 : decode cX3_readPart 72 = .ok (.aload_n 0, 1) := by decide +kernel
theorem dX3_readPart_73 : decode cX3_readPart 73 = .ok (.getfield 34, 3) := by decide +kernel
theorem dX3_readPart_76 : decode cX3_readPart 76 = .ok (.sipush 1000, 3) := by decide +kernel
theorem dX3_readPart_79 : decode cX3_readPart 79 = .ok (.if_icmp .gt 7, 3) := by decide +kernel
theorem dX3_readPart_82 : decode cX3_readPart 82 = .ok (.iconst 1, 1) := by decide +kernel
theorem dX3_readPart_83 : decode cX3_readPart 83 = .ok (.goto 4, 3) := by decide +kernel
theorem dX3_readPart_86 : decode cX3_readPart 86 = .ok (.iconst 0, 1) := by decide +kernel
theorem dX3_readPart_87 : decode cX3_readPart 87 = .ok (.istore_n 3, 1) := by decide +kernel
theorem dX3_readPart_88 : decode cX3_readPart 88 = .ok (.aload_n 0, 1) := by decide +kernel
theorem dX3_readPart_89 : decode cX3_readPart 89 = .ok (.getfield 37, 3) := by decide +kernel
theorem dX3_readPart_92 : decode cX3_readPart 92 = .ok (.bipush 50, 2) := by decide +kernel
theorem dX3_readPart_94 : decode cX3_readPart 94 = .ok (.if_icmp .ge 12, 3) := by decide +kernel
theorem dX3_readPart_97 : decode cX3_readPart 97 = .ok (.iload_n 2, 1) := by decide +kernel
theorem dX3_readPart_98 : decode cX3_readPart 98 = .ok (.iconst (-1), 1) := by decide +kernel
theorem dX3_readPart_99 : decode cX3_readPart 99 = .ok (.if_icmp .ne 12, 3) := by decide +kernel
theorem dX3_readPart_102 : decode cX3_readPart 102 = .ok (.iload_n 3, 1) := by decide +kernel
theorem dX3_readPart_103 : decode cX3_readPart 103 = .ok (.ifCond .ne 8, 3) := by decide +kernel
theorem dX3_readPart_106 : decode cX3_readPart 106 = .ok (.aload_n 0, 1) := by decide +kernel
theorem dX3_readPart_107 : decode cX3_readPart 107 = .ok (.invokevirtual 60, 3) := by decide +kernel
theorem dX3_readPart_110 : decode cX3_readPart 110 = .ok (.return_, 1) := by decide +kernel
theorem dX3_readPart_111 : decode cX3_readPart 111 = .ok (.aload_n 0, 1) := by decide +kernel
theorem dX3_readPart_112 : decode cX3_readPart 112 = .ok (.dup, 1) := by decide +kernel
theorem dX3_readPart_113 : decode cX3_readPart 113 = .ok (.getfield 37, 3) := by decide +kernel
theorem dX3_readPart_116 : decode cX3_readPart 116 = .ok (.iconst 1, 1) := by decide +kernel
theorem dX3_readPart_117 : decode cX3_readPart 117 = .ok (.iadd, 1) := by decide +kernel
theorem dX3_readPart_118 : decode cX3_readPart 118 = .ok (.putfield 37, 3) := by decide +kernel
theorem dX3_readPart_121 : decode cX3_readPart 121 = .ok (.iload_n 3, 1) := by decide +kernel
theorem dX3_readPart_122 : decode cX3_readPart 122 = .ok (.ifCond .eq 23, 3) := by decide +kernel
theorem dX3_readPart_125 : decode cX3_readPart 125 = .ok (.aload_n 0, 1) := by decide +kernel
theorem dX3_readPart_126 : decode cX3_readPart 126 = .ok (.getfield 14, 3) := by decide +kernel
theorem dX3_readPart_129 : decode cX3_readPart 129 = .ok (.iconst 1, 1) := by decide +kernel
theorem dX3_readPart_130 : decode cX3_readPart 130 = .ok (.aload_n 0, 1) := by decide +kernel
theorem dX3_readPart_131 : decode cX3_readPart 131 = .ok (.getfield 34, 3) := by decide +kernel
theorem dX3_readPart_134 : decode cX3_readPart 134 = .ok (.invokevirtual 86, 3) := by decide +kernel
theorem dX3_readPart_137 : decode cX3_readPart 137 = .ok (.pop, 1) := by decide +kernel
theorem dX3_readPart_138 : decode cX3_readPart 138 = .ok (.aload_n 0, 1) := by decide +kernel
theorem dX3_readPart_139 : decode cX3_readPart 139 = .ok (.invokevirtual 50, 3) := by decide +kernel
theorem dX3_readPart_142 : decode cX3_readPart 142 = .ok (.goto 12, 3) := by decide +kernel
theorem dX3_readPart_145 : decode cX3_readPart 145 = .ok (.aload_n 0, 1) := by decide +kernel
theorem dX3_readPart_146 : decode cX3_readPart 146 = .ok (.invokevirtual 50, 3) := by decide +kernel
theorem dX3_readPart_149 : decode cX3_readPart 149 = .ok (.aload_n 0, 1) := by decide +kernel
theorem dX3_readPart_150 : decode cX3_readPart 150 = .ok (.iload_n 2, 1) := by decide +kernel
theorem dX3_readPart_151 : decode cX3_readPart 151 = .ok (.invokevirtual 148, 3) := by decide +kernel
theorem dX3_readPart_154 : decode cX3_readPart 154 = .ok (.return_, 1) := by decide +kernel
theorem dX3_putWord_0 : decode cX3_putWord 0 = .ok (.aload_n 0, 1) := by decide +kernel
theorem dX3_putWord_1 : decode cX3_putWord 1 = .ok (.getfield 20, 3) := by decide +kernel
theorem dX3_putWord_4 : decode cX3_putWord 4 = .ok (.ifCond .ne 8, 3) := by decide +kernel
theorem dX3_putWord_7 : decode cX3_putWord 7 = .ok (.iload_n 1, 1) := by decide +kernel
theorem dX3_putWord_8 : decode cX3_putWord 8 = .ok (.iconst 5, 1) := by decide +kernel
theorem dX3_putWord_9 : decode cX3_putWord 9 = .ok (.if_icmp .ge 14, 3) := by decide +kernel
theorem dX3_putWord_12 : decode cX3_putWord 12 = .ok (.aload_n 0, 1) := by decide +kernel
theorem dX3_putWord_13 : decode cX3_putWord 13 = .ok (.getfield 14, 3) := by decide +kernel
theorem dX3_putWord_16 : decode cX3_putWord 16 = .ok (.iconst 2, 1) := by decide +kernel
theorem dX3_putWord_17 : decode cX3_putWord 17 = .ok (.iload_n 1, 1) := by decide +kernel
theorem dX3_putWord_18 : decode cX3_putWord 18 = .ok (.invokevirtual 86, 3) := by decide +kernel
theorem dX3_putWord_21 : decode cX3_putWord 21 = .ok (.pop, 1) := by decide +kernel
theorem dX3_putWord_22 : decode cX3_putWord 22 = .ok (.return_, 1) := by decide +kernel
theorem dX3_putWord_23 : decode cX3_putWord 23 = .ok (.aload_n 0, 1) := by decide +kernel
theorem dX3_putWord_24 : decode cX3_putWord 24 = .ok (.getfield 24, 3) := by decide +kernel
theorem dX3_putWord_27 : decode cX3_putWord 27 = .ok (.iconst 2, 1) := by decide +kernel
theorem dX3_putWord_28 : decode cX3_putWord 28 = .ok (.if_icmp .ne 12, 3) := by decide +kernel
theorem dX3_putWord_31 : decode cX3_putWord 31 = .ok (.aload_n 0, 1) := by decide +kernel
theorem dX3_putWord_32 : decode cX3_putWord 32 = .ok (.getfield 34, 3) := by decide +kernel
theorem dX3_putWord_35 : decode cX3_putWord 35 = .ok (.bipush 6, 2) := by decide +kernel
theorem dX3_putWord_37 : decode cX3_putWord 37 = .ok (.if_icmp .lt 8, 3) := by decide +kernel
theorem dX3_putWord_40 : decode cX3_putWord 40 = .ok (.aload_n 0, 1) := by decide +kernel
theorem dX3_putWord_41 : decode cX3_putWord 41 = .ok (.invokevirtual 60, 3) := by decide +kernel
theorem dX3_putWord_44 : decode cX3_putWord 44 = .ok (.return_, 1) := by decide +kernel
theorem dX3_putWord_45 : decode cX3_putWord 45 = .ok (.aload_n 0, 1) := by decide +kernel
theorem dX3_putWord_46 : decode cX3_putWord 46 = .ok (.getfield 14, 3) := by decide +kernel
theorem dX3_putWord_49 : decode cX3_putWord 49 = .ok (.iconst 2, 1) := by decide +kernel
theorem dX3_putWord_50 : decode cX3_putWord 50 = .ok (.iconst 5, 1) := by decide +kernel
theorem dX3_putWord_51 : decode cX3_putWord 51 = .ok (.iload_n 1, 1) := by decide +kernel
theorem dX3_putWord_52 : decode cX3_putWord 52 = .ok (.iconst 5, 1) := by decide +kernel
theorem dX3_putWord_53 : decode cX3_putWord 53 = .ok (.isub, 1) := by decide +kernel
theorem dX3_putWord_54 : decode cX3_putWord 54 = .ok (.bipush 6, 2) := by decide +kernel
theorem dX3_putWord_56 : decode cX3_putWord 56 = .ok (.imul, 1) := by decide +kernel
theorem dX3_putWord_57 : decode cX3_putWord 57 = .ok (.iadd, 1) := by decide +kernel
theorem dX3_putWord_58 : decode cX3_putWord 58 = .ok (.aload_n 0, 1) := by decide +kernel
theorem dX3_putWord_59 : decode cX3_putWord 59 = .ok (.getfield 34, 3) := by decide +kernel
theorem dX3_putWord_62 : decode cX3_putWord 62 = .ok (.iadd, 1) := by decide +kernel
theorem dX3_putWord_63 : decode cX3_putWord 63 = .ok (.invokevirtual 86, 3) := by decide +kernel
theorem dX3_putWord_66 : decode cX3_putWord 66 = .ok (.pop, 1) := by decide +kernel
theorem dX3_putWord_67 : decode cX3_putWord 67 = .ok (.aload_n 0, 1) := by decide +kernel
theorem dX3_putWord_68 : decode cX3_putWord 68 = .ok (.invokevirtual 50, 3) := by decide +kernel
theorem dX3_putWord_71 : decode cX3_putWord 71 = .ok (.return_, 1) := by decide +kernel
theorem dX3_setFault_0 : decode cX3_setFault 0 = .ok (.aload_n 0, 1) := by decide +kernel
theorem dX3_setFault_1 : decode cX3_setFault 1 = .ok (.getfield 40, 3) := by decide +kernel
theorem dX3_setFault_4 : decode cX3_setFault 4 = .ok (.iconst (-1), 1) := by decide +kernel
theorem dX3_setFault_5 : decode cX3_setFault 5 = .ok (.if_icmp .ne 16, 3) := by decide +kernel
theorem dX3_setFault_8 : decode cX3_setFault 8 = .ok (.aload_n 0, 1) := by decide +kernel
theorem dX3_setFault_9 : decode cX3_setFault 9 = .ok (.aload_n 0, 1) := by decide +kernel
theorem dX3_setFault_10 : decode cX3_setFault 10 = .ok (.getfield 28, 3) := by decide +kernel
theorem dX3_setFault_13 : decode cX3_setFault 13 = .ok (.putfield 40, 3) := by decide +kernel
theorem dX3_setFault_16 : decode cX3_setFault 16 = .ok (.aload_n 0, 1) := by decide +kernel
theorem dX3_setFault_17 : decode cX3_setFault 17 = .ok (.iconst 4, 1) := by decide +kernel
theorem dX3_setFault_18 : decode cX3_setFault 18 = .ok (.putfield 24, 3) := by decide +kernel
theorem dX3_setFault_21 : decode cX3_setFault 21 = .ok (.return_, 1) := by decide +kernel
theorem dX3_stepOf_0 : decode cX3_stepOf 0 = .ok (.aload_n 0, 1) := by decide +kernel
theorem dX3_stepOf_1 : decode cX3_stepOf 1 = .ok (.iload_n 1, 1) := by decide +kernel
theorem dX3_stepOf_2 : decode cX3_stepOf 2 = .ok (.invokevirtual 131, 3) := by decide +kernel
theorem dX3_stepOf_5 : decode cX3_stepOf 5 = .ok (.ifCond .eq 5, 3) := by decide +kernel
theorem dX3_stepOf_8 : decode cX3_stepOf 8 = .ok (.iload_n 2, 1) := by decide +kernel
theorem dX3_stepOf_9 : decode cX3_stepOf 9 = .ok (.ireturn, 1) := by decide +kernel
theorem dX3_stepOf_10 : decode cX3_stepOf 10 = .ok (.aload_n 0, 1) := by decide +kernel
theorem dX3_stepOf_11 : decode cX3_stepOf 11 = .ok (.iload_n 3, 1) := by decide +kernel
theorem dX3_stepOf_12 : decode cX3_stepOf 12 = .ok (.invokevirtual 131, 3) := by decide +kernel
theorem dX3_stepOf_15 : decode cX3_stepOf 15 = .ok (.ifCond .eq 6, 3) := by decide +kernel
theorem dX3_stepOf_18 : decode cX3_stepOf 18 = .ok (.iload 4, 2) := by decide +kernel
theorem dX3_stepOf_20 : decode cX3_stepOf 20 = .ok (.ireturn, 1) := by decide +kernel
theorem dX3_stepOf_21 : decode cX3_stepOf 21 = .ok (.aload_n 0, 1) := by decide +kernel
theorem dX3_stepOf_22 : decode cX3_stepOf 22 = .ok (.iload 5, 2) := by decide +kernel
theorem dX3_stepOf_24 : decode cX3_stepOf 24 = .ok (.invokevirtual 131, 3) := by decide +kernel
theorem dX3_stepOf_27 : decode cX3_stepOf 27 = .ok (.ifCond .eq 8, 3) := by decide +kernel
theorem dX3_stepOf_30 : decode cX3_stepOf 30 = .ok (.iload 6, 2) := by decide +kernel
theorem dX3_stepOf_32 : decode cX3_stepOf 32 = .ok (.goto 4, 3) := by decide +kernel
theorem dX3_stepOf_35 : decode cX3_stepOf 35 = .ok (.iconst (-1), 1) := by decide +kernel
theorem dX3_stepOf_36 : decode cX3_stepOf 36 = .ok (.ireturn, 1) := by decide +kernel
theorem dX3_isSign_0 : decode cX3_isSign 0 = .ok (.aload_n 0, 1) := by decide +kernel
theorem dX3_isSign_1 : decode cX3_isSign 1 = .ok (.getfield 24, 3) := by decide +kernel
theorem dX3_isSign_4 : decode cX3_isSign 4 = .ok (.iconst 3, 1) := by decide +kernel
theorem dX3_isSign_5 : decode cX3_isSign 5 = .ok (.if_icmp .ne 19, 3) := by decide +kernel
theorem dX3_isSign_8 : decode cX3_isSign 8 = .ok (.aload_n 0, 1) := by decide +kernel
theorem dX3_isSign_9 : decode cX3_isSign 9 = .ok (.aload_n 0, 1) := by decide +kernel
theorem dX3_isSign_10 : decode cX3_isSign 10 = .ok (.getfield 28, 3) := by decide +kernel
theorem dX3_isSign_13 : decode cX3_isSign 13 = .ok (.invokevirtual 151, 3) := by decide +kernel
theorem dX3_isSign_16 : decode cX3_isSign 16 = .ok (.iload_n 1, 1) := by decide +kernel
theorem dX3_isSign_17 : decode cX3_isSign 17 = .ok (.if_icmp .ne 7, 3) := by decide +kernel
theorem dX3_isSign_20 : decode cX3_isSign 20 = .ok (.iconst 1, 1) := by decide +kernel
theorem dX3_isSign_21 : decode cX3_isSign 21 = .ok (.goto 4, 3) := by decide +kernel
theorem dX3_isSign_24 : decode cX3_isSign 24 = .ok (.iconst 0, 1) := by decide +kernel
theorem dX3_isSign_25 : decode cX3_isSign 25 = .ok (.ireturn, 1) := by decide +kernel
theorem dX3_takeSign_0 : decode cX3_takeSign 0 = .ok (.aload_n 0, 1) := by decide +kernel
theorem dX3_takeSign_1 : decode cX3_takeSign 1 = .ok (.iload_n 1, 1) := by decide +kernel
theorem dX3_takeSign_2 : decode cX3_takeSign 2 = .ok (.invokevirtual 131, 3) := by decide +kernel
theorem dX3_takeSign_5 : decode cX3_takeSign 5 = .ok (.istore_n 2, 1) := by decide +kernel
theorem dX3_takeSign_6 : decode cX3_takeSign 6 = .ok (.iload_n 2, 1) := by decide +kernel
theorem dX3_takeSign_7 : decode cX3_takeSign 7 = .ok (.ifCond .eq 7, 3) := by decide +kernel
theorem dX3_takeSign_10 : decode cX3_takeSign 10 = .ok (.aload_n 0, 1) := by decide +kernel
theorem dX3_takeSign_11 : decode cX3_takeSign 11 = .ok (.invokevirtual 50, 3) := by decide +kernel
theorem dX3_takeSign_14 : decode cX3_takeSign 14 = .ok (.iload_n 2, 1) := by decide +kernel
theorem dX3_takeSign_15 : decode cX3_takeSign 15 = .ok (.ireturn, 1) := by decide +kernel
theorem dX3_takeWord_0 : decode cX3_takeWord 0 = .ok (.aload_n 0, 1) := by decide +kernel
theorem dX3_takeWord_1 : decode cX3_takeWord 1 = .ok (.aload_n 1, 1) := by decide +kernel
theorem dX3_takeWord_2 : decode cX3_takeWord 2 = .ok (.invokevirtual 67, 3) := by decide +kernel
theorem dX3_takeWord_5 : decode cX3_takeWord 5 = .ok (.iconst (-1), 1) := by decide +kernel
theorem dX3_takeWord_6 : decode cX3_takeWord 6 = .ok (.if_icmp .eq 7, 3) := by decide +kernel
theorem dX3_takeWord_9 : decode cX3_takeWord 9 = .ok (.iconst 1, 1) := by decide +kernel
theorem dX3_takeWord_10 : decode cX3_takeWord 10 = .ok (.goto 4, 3) := by decide +kernel
theorem dX3_takeWord_13 : decode cX3_takeWord 13 = .ok (.iconst 0, 1) := by decide +kernel
theorem dX3_takeWord_14 : decode cX3_takeWord 14 = .ok (.istore_n 2, 1) := by decide +kernel
theorem dX3_takeWord_15 : decode cX3_takeWord 15 = .ok (.iload_n 2, 1) := by decide +kernel
theorem dX3_takeWord_16 : decode cX3_takeWord 16 = .ok (.ifCond .eq 7, 3) := by decide +kernel
theorem dX3_takeWord_19 : decode cX3_takeWord 19 = .ok (.aload_n 0, 1) := by decide +kernel
theorem dX3_takeWord_20 : decode cX3_takeWord 20 = .ok (.invokevirtual 50, 3) := by decide +kernel
theorem dX3_takeWord_23 : decode cX3_takeWord 23 = .ok (.iload_n 2, 1) := by decide +kernel
theorem dX3_takeWord_24 : decode cX3_takeWord 24 = .ok (.ireturn, 1) := by decide +kernel
theorem dX3_wordIn_0 : decode cX3_wordIn 0 = .ok (.iconst 0, 1) := by decide +kernel
theorem dX3_wordIn_1 : decode cX3_wordIn 1 = .ok (.istore_n 2, 1) := by decide +kernel
theorem dX3_wordIn_2 : decode cX3_wordIn 2 = .ok (.iconst 0, 1) := by decide +kernel
theorem dX3_wordIn_3 : decode cX3_wordIn 3 = .ok (.istore_n 3, 1) := by decide +kernel
theorem dX3_wordIn_4 : decode cX3_wordIn 4 = .ok (.iconst 0, 1) := by decide +kernel
theorem dX3_wordIn_5 : decode cX3_wordIn 5 = .ok (.istore 4, 2) := by decide +kernel
theorem dX3_wordIn_7 : decode cX3_wordIn 7 = .ok (.iload 4, 2) := by decide +kernel
theorem dX3_wordIn_9 : decode cX3_wordIn 9 = .ok (.aload_n 1, 1) := by decide +kernel
theorem dX3_wordIn_10 : decode cX3_wordIn 10 = .ok (.invokevirtual 154, 3) := by decide +kernel
theorem dX3_wordIn_13 : decode cX3_wordIn 13 = .ok (.if_icmp .gt 58, 3) := by decide +kernel
theorem dX3_wordIn_16 : decode cX3_wordIn 16 = .ok (.iload 4, 2) := by decide +kernel
theorem dX3_wordIn_18 : decode cX3_wordIn 18 = .ok (.aload_n 1, 1) := by decide +kernel
theorem dX3_wordIn_19 : decode cX3_wordIn 19 = .ok (.invokevirtual 154, 3) := by decide +kernel
theorem dX3_wordIn_22 : decode cX3_wordIn 22 = .ok (.if_icmp .eq 14, 3) := by decide +kernel
theorem dX3_wordIn_25 : decode cX3_wordIn 25 = .ok (.aload_n 1, 1) := by decide +kernel
theorem dX3_wordIn_26 : decode cX3_wordIn 26 = .ok (.iload 4, 2) := by decide +kernel
theorem dX3_wordIn_28 : decode cX3_wordIn 28 = .ok (.invokevirtual 160, 3) := by decide +kernel
theorem dX3_wordIn_31 : decode cX3_wordIn 31 = .ok (.bipush 32, 2) := by decide +kernel
theorem dX3_wordIn_33 : decode cX3_wordIn 33 = .ok (.if_icmp .ne 32, 3) := by decide +kernel
theorem dX3_wordIn_36 : decode cX3_wordIn 36 = .ok (.aload_n 0, 1) := by decide +kernel
theorem dX3_wordIn_37 : decode cX3_wordIn 37 = .ok (.getfield 24, 3) := by decide +kernel
theorem dX3_wordIn_40 : decode cX3_wordIn 40 = .ok (.iconst 1, 1) := by decide +kernel
theorem dX3_wordIn_41 : decode cX3_wordIn 41 = .ok (.if_icmp .ne 16, 3) := by decide +kernel
theorem dX3_wordIn_44 : decode cX3_wordIn 44 = .ok (.aload_n 0, 1) := by decide +kernel
theorem dX3_wordIn_45 : decode cX3_wordIn 45 = .ok (.aload_n 1, 1) := by decide +kernel
theorem dX3_wordIn_46 : decode cX3_wordIn 46 = .ok (.iload_n 3, 1) := by decide +kernel
theorem dX3_wordIn_47 : decode cX3_wordIn 47 = .ok (.iload 4, 2) := by decide +kernel
theorem dX3_wordIn_49 : decode cX3_wordIn 49 = .ok (.invokevirtual 164, 3) := by decide +kernel
theorem dX3_wordIn_52 : decode cX3_wordIn 52 = .ok (.ifCond .eq 5, 3) := by decide +kernel
theorem dX3_wordIn_55 : decode cX3_wordIn 55 = .ok (.iload_n 2, 1) := by decide +kernel
theorem dX3_wordIn_56 : decode cX3_wordIn 56 = .ok (.ireturn, 1) := by decide +kernel
theorem dX3_wordIn_57 : decode cX3_wordIn 57 = .ok (.iinc 2 1, 3) := by decide +kernel
theorem dX3_wordIn_60 : decode cX3_wordIn 60 = .ok (.iload 4, 2) := by decide +kernel
theorem dX3_wordIn_62 : decode cX3_wordIn 62 = .ok (.iconst 1, 1) := by decide +kernel
theorem dX3_wordIn_63 : decode cX3_wordIn 63 = .ok (.iadd, 1) := by decide +kernel
theorem dX3_wordIn_64 : decode cX3_wordIn 64 = .ok (.istore_n 3, 1) := by decide +kernel
theorem dX3_wordIn_65 : decode cX3_wordIn 65 = .ok (.iinc 4 1, 3) := by decide +kernel
theorem dX3_wordIn_68 : decode cX3_wordIn 68 = .ok (.goto (-61), 3) := by decide +kernel
theorem dX3_wordIn_71 : decode cX3_wordIn 71 = .ok (.iconst (-1), 1) := by decide +kernel
theorem dX3_wordIn_72 : decode cX3_wordIn 72 = .ok (.ireturn, 1) := by decide +kernel
theorem dX3_spells_0 : decode cX3_spells 0 = .ok (.iload_n 3, 1) := by decide +kernel
theorem dX3_spells_1 : decode cX3_spells 1 = .ok (.iload_n 2, 1) := by decide +kernel
theorem dX3_spells_2 : decode cX3_spells 2 = .ok (.isub, 1) := by decide +kernel
theorem dX3_spells_3 : decode cX3_spells 3 = .ok (.aload_n 0, 1) := by decide +kernel
theorem dX3_spells_4 : decode cX3_spells 4 = .ok (.getfield 31, 3) := by decide +kernel
theorem dX3_spells_7 : decode cX3_spells 7 = .ok (.aload_n 0, 1) := by decide +kernel
theorem dX3_spells_8 : decode cX3_spells 8 = .ok (.getfield 28, 3) := by decide +kernel
theorem dX3_spells_11 : decode cX3_spells 11 = .ok (.isub, 1) := by decide +kernel
theorem dX3_spells_12 : decode cX3_spells 12 = .ok (.if_icmp .ne 24, 3) := by decide +kernel
theorem dX3_spells_15 : decode cX3_spells 15 = .ok (.aload_n 0, 1) := by decide +kernel
theorem dX3_spells_16 : decode cX3_spells 16 = .ok (.getfield 28, 3) := by decide +kernel
theorem dX3_spells_19 : decode cX3_spells 19 = .ok (.ifCond .lt 17, 3) := by decide +kernel
theorem dX3_spells_22 : decode cX3_spells 22 = .ok (.aload_n 0, 1) := by decide +kernel
theorem dX3_spells_23 : decode cX3_spells 23 = .ok (.getfield 31, 3) := by decide +kernel
theorem dX3_spells_26 : decode cX3_spells 26 = .ok (.sipush 400, 3) := by decide +kernel
theorem dX3_spells_29 : decode cX3_spells 29 = .ok (.if_icmp .gt 7, 3) := by decide +kernel
theorem dX3_spells_32 : decode cX3_spells 32 = .ok (.iconst 1, 1) := by decide +kernel
theorem dX3_spells_33 : decode cX3_spells 33 = .ok (.goto 4, 3) := by decide +kernel
theorem dX3_spells_36 : decode cX3_spells 36 = .ok (.iconst 0, 1) := by decide +kernel
theorem dX3_spells_37 : decode cX3_spells 37 = .ok (.istore 4, 2) := by decide +kernel
theorem dX3_spells_39 : decode cX3_spells 39 = .ok (.iconst 0, 1) := by decide +kernel
theorem dX3_spells_40 : decode cX3_spells 40 = .ok (.istore 5, 2) := by decide +kernel
theorem dX3_spells_42 : decode cX3_spells 42 = .ok (.iload 5, 2) := by decide +kernel
theorem dX3_spells_44 : decode cX3_spells 44 = .ok (.aload_n 0, 1) := by decide +kernel
theorem dX3_spells_45 : decode cX3_spells 45 = .ok (.getfield 31, 3) := by decide +kernel
theorem dX3_spells_48 : decode cX3_spells 48 = .ok (.aload_n 0, 1) := by decide +kernel
theorem dX3_spells_49 : decode cX3_spells 49 = .ok (.getfield 28, 3) := by decide +kernel
theorem dX3_spells_52 : decode cX3_spells 52 = .ok (.isub, 1) := by decide +kernel
theorem dX3_spells_53 : decode cX3_spells 53 = .ok (.if_icmp .ge 47, 3) := by decide +kernel
theorem dX3_spells_56 : decode cX3_spells 56 = .ok (.iload 4, 2) := by decide +kernel
theorem dX3_spells_58 : decode cX3_spells 58 = .ok (.ifCond .eq 42, 3) := by decide +kernel
theorem dX3_spells_61 : decode cX3_spells 61 = .ok (.aload_n 0, 1) := by decide +kernel
theorem dX3_spells_62 : decode cX3_spells 62 = .ok (.getfield 43, 3) := by decide +kernel
theorem dX3_spells_65 : decode cX3_spells 65 = .ok (.getfield 168, 3) := by decide +kernel
theorem dX3_spells_68 : decode cX3_spells 68 = .ok (.aload_n 0, 1) := by decide +kernel
theorem dX3_spells_69 : decode cX3_spells 69 = .ok (.getfield 28, 3) := by decide +kernel
theorem dX3_spells_72 : decode cX3_spells 72 = .ok (.iload 5, 2) := by decide +kernel
theorem dX3_spells_74 : decode cX3_spells 74 = .ok (.iadd, 1) := by decide +kernel
theorem dX3_spells_75 : decode cX3_spells 75 = .ok (.iaload, 1) := by decide +kernel
theorem dX3_spells_76 : decode cX3_spells 76 = .ok (.aload_n 1, 1) := by decide +kernel
theorem dX3_spells_77 : decode cX3_spells 77 = .ok (.iload_n 2, 1) := by decide +kernel
theorem dX3_spells_78 : decode cX3_spells 78 = .ok (.iload 5, 2) := by decide +kernel
theorem dX3_spells_80 : decode cX3_spells 80 = .ok (.iadd, 1) := by decide +kernel
theorem dX3_spells_81 : decode cX3_spells 81 = .ok (.invokevirtual 160, 3) := by decide +kernel
theorem dX3_spells_84 : decode cX3_spells 84 = .ok (.if_icmp .ne 7, 3) := by decide +kernel
theorem dX3_spells_87 : decode cX3_spells 87 = .ok (.iconst 1, 1) := by decide +kernel
theorem dX3_spells_88 : decode cX3_spells 88 = .ok (.goto 4, 3) := by decide +kernel
theorem dX3_spells_91 : decode cX3_spells 91 = .ok (.iconst 0, 1) := by decide +kernel
theorem dX3_spells_92 : decode cX3_spells 92 = .ok (.istore 4, 2) := by decide +kernel
theorem dX3_spells_94 : decode cX3_spells 94 = .ok (.iinc 5 1, 3) := by decide +kernel
theorem dX3_spells_97 : decode cX3_spells 97 = .ok (.goto (-55), 3) := by decide +kernel
theorem dX3_spells_100 : decode cX3_spells 100 = .ok (.iload 4, 2) := by decide +kernel
theorem dX3_spells_102 : decode cX3_spells 102 = .ok (.ireturn, 1) := by decide +kernel
theorem dX3_goOn_0 : decode cX3_goOn 0 = .ok (.aload_n 0, 1) := by decide +kernel
theorem dX3_goOn_1 : decode cX3_goOn 1 = .ok (.aload_n 0, 1) := by decide +kernel
theorem dX3_goOn_2 : decode cX3_goOn 2 = .ok (.getfield 31, 3) := by decide +kernel
theorem dX3_goOn_5 : decode cX3_goOn 5 = .ok (.putfield 28, 3) := by decide +kernel
theorem dX3_goOn_8 : decode cX3_goOn 8 = .ok (.iconst 0, 1) := by decide +kernel
theorem dX3_goOn_9 : decode cX3_goOn 9 = .ok (.istore_n 1, 1) := by decide +kernel
theorem dX3_goOn_10 : decode cX3_goOn 10 = .ok (.iload_n 1, 1) := by decide +kernel
theorem dX3_goOn_11 : decode cX3_goOn 11 = .ok (.sipush 400, 3) := by decide +kernel
theorem dX3_goOn_14 : decode cX3_goOn 14 = .ok (.if_icmp .ge 32, 3) := by decide +kernel
theorem dX3_goOn_17 : decode cX3_goOn 17 = .ok (.aload_n 0, 1) := by decide +kernel
theorem dX3_goOn_18 : decode cX3_goOn 18 = .ok (.aload_n 0, 1) := by decide +kernel
theorem dX3_goOn_19 : decode cX3_goOn 19 = .ok (.getfield 28, 3) := by decide +kernel
theorem dX3_goOn_22 : decode cX3_goOn 22 = .ok (.invokevirtual 151, 3) := by decide +kernel
theorem dX3_goOn_25 : decode cX3_goOn 25 = .ok (.bipush 32, 2) := by decide +kernel
theorem dX3_goOn_27 : decode cX3_goOn 27 = .ok (.if_icmp .ne 19, 3) := by decide +kernel
theorem dX3_goOn_30 : decode cX3_goOn 30 = .ok (.aload_n 0, 1) := by decide +kernel
theorem dX3_goOn_31 : decode cX3_goOn 31 = .ok (.dup, 1) := by decide +kernel
theorem dX3_goOn_32 : decode cX3_goOn 32 = .ok (.getfield 28, 3) := by decide +kernel
theorem dX3_goOn_35 : decode cX3_goOn 35 = .ok (.iconst 1, 1) := by decide +kernel
theorem dX3_goOn_36 : decode cX3_goOn 36 = .ok (.iadd, 1) := by decide +kernel
theorem dX3_goOn_37 : decode cX3_goOn 37 = .ok (.putfield 28, 3) := by decide +kernel
theorem dX3_goOn_40 : decode cX3_goOn 40 = .ok (.iinc 1 1, 3) := by decide +kernel
theorem dX3_goOn_43 : decode cX3_goOn 43 = .ok (.goto (-33), 3) := by decide +kernel
theorem dX3_goOn_46 : decode cX3_goOn 46 = .ok (.aload_n 0, 1) := by decide +kernel
theorem dX3_goOn_47 : decode cX3_goOn 47 = .ok (.aload_n 0, 1) := by decide +kernel
theorem dX3_goOn_48 : decode cX3_goOn 48 = .ok (.getfield 28, 3) := by decide +kernel
theorem dX3_goOn_51 : decode cX3_goOn 51 = .ok (.putfield 31, 3) := by decide +kernel
theorem dX3_goOn_54 : decode cX3_goOn 54 = .ok (.aload_n 0, 1) := by decide +kernel
theorem dX3_goOn_55 : decode cX3_goOn 55 = .ok (.iconst 0, 1) := by decide +kernel
theorem dX3_goOn_56 : decode cX3_goOn 56 = .ok (.putfield 34, 3) := by decide +kernel
theorem dX3_goOn_59 : decode cX3_goOn 59 = .ok (.aload_n 0, 1) := by decide +kernel
theorem dX3_goOn_60 : decode cX3_goOn 60 = .ok (.aload_n 0, 1) := by decide +kernel
theorem dX3_goOn_61 : decode cX3_goOn 61 = .ok (.aload_n 0, 1) := by decide +kernel
theorem dX3_goOn_62 : decode cX3_goOn 62 = .ok (.getfield 28, 3) := by decide +kernel
theorem dX3_goOn_65 : decode cX3_goOn 65 = .ok (.invokevirtual 151, 3) := by decide +kernel
theorem dX3_goOn_68 : decode cX3_goOn 68 = .ok (.invokestatic 173, 3) := by decide +kernel
theorem dX3_goOn_71 : decode cX3_goOn 71 = .ok (.putfield 24, 3) := by decide +kernel
theorem dX3_goOn_74 : decode cX3_goOn 74 = .ok (.aload_n 0, 1) := by decide +kernel
theorem dX3_goOn_75 : decode cX3_goOn 75 = .ok (.getfield 24, 3) := by decide +kernel
theorem dX3_goOn_78 : decode cX3_goOn 78 = .ok (.iconst 3, 1) := by decide +kernel
theorem dX3_goOn_79 : decode cX3_goOn 79 = .ok (.if_icmp .ne 13, 3) := by decide +kernel
theorem dX3_goOn_82 : decode cX3_goOn 82 = .ok (.aload_n 0, 1) := by decide +kernel
theorem dX3_goOn_83 : decode cX3_goOn 83 = .ok (.dup, 1) := by decide +kernel
theorem dX3_goOn_84 : decode cX3_goOn 84 = .ok (.getfield 31, 3) := by decide +kernel
theorem dX3_goOn_87 : decode cX3_goOn 87 = .ok (.iconst 1, 1) := by decide +kernel
theorem dX3_goOn_88 : decode cX3_goOn 88 = .ok (.iadd, 1) := by decide +kernel
theorem dX3_goOn_89 : decode cX3_goOn 89 = .ok (.putfield 31, 3) := by decide +kernel
theorem dX3_goOn_92 : decode cX3_goOn 92 = .ok (.aload_n 0, 1) := by decide +kernel
theorem dX3_goOn_93 : decode cX3_goOn 93 = .ok (.getfield 24, 3) := by decide +kernel
theorem dX3_goOn_96 : decode cX3_goOn 96 = .ok (.iconst 1, 1) := by decide +kernel
theorem dX3_goOn_97 : decode cX3_goOn 97 = .ok (.if_icmp .eq 11, 3) := by decide +kernel
theorem dX3_goOn_100 : decode cX3_goOn 100 = .ok (.aload_n 0, 1) := by decide +kernel
theorem dX3_goOn_101 : decode cX3_goOn 101 = .ok (.getfield 24, 3) := by decide +kernel
theorem dX3_goOn_104 : decode cX3_goOn 104 = .ok (.iconst 2, 1) := by decide +kernel
theorem dX3_goOn_105 : decode cX3_goOn 105 = .ok (.if_icmp .ne 75, 3) := by decide +kernel
theorem dX3_goOn_108 : decode cX3_goOn 108 = .ok (.iconst 0, 1) := by decide +kernel
theorem dX3_goOn_109 : decode cX3_goOn 109 = .ok (.istore_n 1, 1) := by decide +kernel
theorem dX3_goOn_110 : decode cX3_goOn 110 = .ok (.iload_n 1, 1) := by decide +kernel
theorem dX3_goOn_111 : decode cX3_goOn 111 = .ok (.sipush 400, 3) := by decide +kernel
theorem dX3_goOn_114 : decode cX3_goOn 114 = .ok (.if_icmp .ge 66, 3) := by decide +kernel
theorem dX3_goOn_117 : decode cX3_goOn 117 = .ok (.aload_n 0, 1) := by decide +kernel
theorem dX3_goOn_118 : decode cX3_goOn 118 = .ok (.aload_n 0, 1) := by decide +kernel
theorem dX3_goOn_119 : decode cX3_goOn 119 = .ok (.getfield 31, 3) := by decide +kernel
theorem dX3_goOn_122 : decode cX3_goOn 122 = .ok (.invokevirtual 151, 3) := by decide +kernel
theorem dX3_goOn_125 : decode cX3_goOn 125 = .ok (.invokestatic 173, 3) := by decide +kernel
theorem dX3_goOn_128 : decode cX3_goOn 128 = .ok (.aload_n 0, 1) := by decide +kernel
theorem dX3_goOn_129 : decode cX3_goOn 129 = .ok (.getfield 24, 3) := by decide +kernel
theorem dX3_goOn_132 : decode cX3_goOn 132 = .ok (.if_icmp .ne 48, 3) := by decide +kernel
theorem dX3_goOn_135 : decode cX3_goOn 135 = .ok (.aload_n 0, 1) := by decide +kernel
theorem dX3_goOn_136 : decode cX3_goOn 136 = .ok (.aload_n 0, 1) := by decide +kernel
theorem dX3_goOn_137 : decode cX3_goOn 137 = .ok (.getfield 34, 3) := by decide +kernel
theorem dX3_goOn_140 : decode cX3_goOn 140 = .ok (.bipush 10, 2) := by decide +kernel
theorem dX3_goOn_142 : decode cX3_goOn 142 = .ok (.imul, 1) := by decide +kernel
theorem dX3_goOn_143 : decode cX3_goOn 143 = .ok (.aload_n 0, 1) := by decide +kernel
theorem dX3_goOn_144 : decode cX3_goOn 144 = .ok (.aload_n 0, 1) := by decide +kernel
theorem dX3_goOn_145 : decode cX3_goOn 145 = .ok (.getfield 31, 3) := by decide +kernel
theorem dX3_goOn_148 : decode cX3_goOn 148 = .ok (.invokevirtual 151, 3) := by decide +kernel
theorem dX3_goOn_151 : decode cX3_goOn 151 = .ok (.iadd, 1) := by decide +kernel
theorem dX3_goOn_152 : decode cX3_goOn 152 = .ok (.bipush 48, 2) := by decide +kernel
theorem dX3_goOn_154 : decode cX3_goOn 154 = .ok (.isub, 1) := by decide +kernel
theorem dX3_goOn_155 : decode cX3_goOn 155 = .ok (.sipush 1001, 3) := by decide +kernel
theorem dX3_goOn_158 : decode cX3_goOn 158 = .ok (.invokestatic 176, 3) := by decide +kernel
theorem dX3_goOn_161 : decode cX3_goOn 161 = .ok (.putfield 34, 3) := by decide +kernel
theorem dX3_goOn_164 : decode cX3_goOn 164 = .ok (.aload_n 0, 1) := by decide +kernel
theorem dX3_goOn_165 : decode cX3_goOn 165 = .ok (.dup, 1) := by decide +kernel
theorem dX3_goOn_166 : decode cX3_goOn 166 = .ok (.getfield 31, 3) := by decide +kernel
theorem dX3_goOn_169 : decode cX3_goOn 169 = .ok (.iconst 1, 1) := by decide +kernel
theorem dX3_goOn_170 : decode cX3_goOn 170 = .ok (.iadd, 1) := by decide +kernel
theorem dX3_goOn_171 : decode cX3_goOn 171 = .ok (.putfield 31, 3) := by decide +kernel
theorem dX3_goOn_174 : decode cX3_goOn 174 = .ok (.iinc 1 1, 3) := by decide +kernel
theorem dX3_goOn_177 : decode cX3_goOn 177 = .ok (.goto (-67), 3) := by decide +kernel
theorem dX3_goOn_180 : decode cX3_goOn 180 = .ok (.return_, 1) := by decide +kernel
theorem dX3_sortOf_0 : decode cX3_sortOf 0 = .ok (.iload_n 0, 1) := by decide +kernel
theorem dX3_sortOf_1 : decode cX3_sortOf 1 = .ok (.iconst (-1), 1) := by decide +kernel
theorem dX3_sortOf_2 : decode cX3_sortOf 2 = .ok (.if_icmp .ne 5, 3) := by decide +kernel
theorem dX3_sortOf_5 : decode cX3_sortOf 5 = .ok (.iconst 0, 1) := by decide +kernel
theorem dX3_sortOf_6 : decode cX3_sortOf 6 = .ok (.ireturn, 1) := by decide +kernel
theorem dX3_sortOf_7 : decode cX3_sortOf 7 = .ok (.iload_n 0, 1) := by decide +kernel
theorem dX3_sortOf_8 : decode cX3_sortOf 8 = .ok (.bipush 97, 2) := by decide +kernel
theorem dX3_sortOf_10 : decode cX3_sortOf 10 = .ok (.if_icmp .lt 11, 3) := by decide +kernel
theorem dX3_sortOf_13 : decode cX3_sortOf 13 = .ok (.iload_n 0, 1) := by decide +kernel
theorem dX3_sortOf_14 : decode cX3_sortOf 14 = .ok (.bipush 122, 2) := by decide +kernel
theorem dX3_sortOf_16 : decode cX3_sortOf 16 = .ok (.if_icmp .gt 5, 3) := by decide +kernel
theorem dX3_sortOf_19 : decode cX3_sortOf 19 = .ok (.iconst 1, 1) := by decide +kernel
theorem dX3_sortOf_20 : decode cX3_sortOf 20 = .ok (.ireturn, 1) := by decide +kernel
theorem dX3_sortOf_21 : decode cX3_sortOf 21 = .ok (.iload_n 0, 1) := by decide +kernel
theorem dX3_sortOf_22 : decode cX3_sortOf 22 = .ok (.bipush 48, 2) := by decide +kernel
theorem dX3_sortOf_24 : decode cX3_sortOf 24 = .ok (.if_icmp .lt 13, 3) := by decide +kernel
theorem dX3_sortOf_27 : decode cX3_sortOf 27 = .ok (.iload_n 0, 1) := by decide +kernel
theorem dX3_sortOf_28 : decode cX3_sortOf 28 = .ok (.bipush 57, 2) := by decide +kernel
theorem dX3_sortOf_30 : decode cX3_sortOf 30 = .ok (.if_icmp .gt 7, 3) := by decide +kernel
theorem dX3_sortOf_33 : decode cX3_sortOf 33 = .ok (.iconst 2, 1) := by decide +kernel
theorem dX3_sortOf_34 : decode cX3_sortOf 34 = .ok (.goto 4, 3) := by decide +kernel
theorem dX3_sortOf_37 : decode cX3_sortOf 37 = .ok (.iconst 3, 1) := by decide +kernel
theorem dX3_sortOf_38 : decode cX3_sortOf 38 = .ok (.ireturn, 1) := by decide +kernel
theorem dX3_byteAt_0 : decode cX3_byteAt 0 = .ok (.iload_n 1, 1) := by decide +kernel
theorem dX3_byteAt_1 : decode cX3_byteAt 1 = .ok (.ifCond .lt 33, 3) := by decide +kernel
theorem dX3_byteAt_4 : decode cX3_byteAt 4 = .ok (.iload_n 1, 1) := by decide +kernel
theorem dX3_byteAt_5 : decode cX3_byteAt 5 = .ok (.aload_n 0, 1) := by decide +kernel
theorem dX3_byteAt_6 : decode cX3_byteAt 6 = .ok (.getfield 43, 3) := by decide +kernel
theorem dX3_byteAt_9 : decode cX3_byteAt 9 = .ok (.getfield 181, 3) := by decide +kernel
theorem dX3_byteAt_12 : decode cX3_byteAt 12 = .ok (.if_icmp .ge 22, 3) := by decide +kernel
theorem dX3_byteAt_15 : decode cX3_byteAt 15 = .ok (.iload_n 1, 1) := by decide +kernel
theorem dX3_byteAt_16 : decode cX3_byteAt 16 = .ok (.sipush 400, 3) := by decide +kernel
theorem dX3_byteAt_19 : decode cX3_byteAt 19 = .ok (.if_icmp .ge 15, 3) := by decide +kernel
theorem dX3_byteAt_22 : decode cX3_byteAt 22 = .ok (.aload_n 0, 1) := by decide +kernel
theorem dX3_byteAt_23 : decode cX3_byteAt 23 = .ok (.getfield 43, 3) := by decide +kernel
theorem dX3_byteAt_26 : decode cX3_byteAt 26 = .ok (.getfield 168, 3) := by decide +kernel
theorem dX3_byteAt_29 : decode cX3_byteAt 29 = .ok (.iload_n 1, 1) := by decide +kernel
theorem dX3_byteAt_30 : decode cX3_byteAt 30 = .ok (.iaload, 1) := by decide +kernel
theorem dX3_byteAt_31 : decode cX3_byteAt 31 = .ok (.goto 4, 3) := by decide +kernel
theorem dX3_byteAt_34 : decode cX3_byteAt 34 = .ok (.iconst (-1), 1) := by decide +kernel
theorem dX3_byteAt_35 : decode cX3_byteAt 35 = .ok (.ireturn, 1) := by decide +kernel
theorem dX4_init_0 : decode cX4_init 0 = .ok (.aload_n 0, 1) := by decide +kernel
theorem dX4_init_1 : decode cX4_init 1 = .ok (.invokespecial 3, 3) := by decide +kernel
theorem dX4_init_4 : decode cX4_init 4 = .ok (.aload_n 0, 1) := by decide +kernel
theorem dX4_init_5 : decode cX4_init 5 = .ok (.sipush 990, 3) := by decide +kernel
theorem dX4_init_8 : decode cX4_init 8 = .ok (.newarray .int, 2) := by decide +kernel
theorem dX4_init_10 : decode cX4_init 10 = .ok (.putfield 11, 3) := by decide +kernel
theorem dX4_init_13 : decode cX4_init 13 = .ok (.aload_n 0, 1) := by decide +kernel
theorem dX4_init_14 : decode cX4_init 14 = .ok (.sipush 990, 3) := by decide +kernel
theorem dX4_init_17 : decode cX4_init 17 = .ok (.newarray .int, 2) := by decide +kernel
theorem dX4_init_19 : decode cX4_init 19 = .ok (.putfield 15, 3) := by decide +kernel
theorem dX4_init_22 : decode cX4_init 22 = .ok (.aload_n 0, 1) := by decide +kernel
theorem dX4_init_23 : decode cX4_init 23 = .ok (.bipush 12, 2) := by decide +kernel
theorem dX4_init_25 : decode cX4_init 25 = .ok (.newarray .int, 2) := by decide +kernel
theorem dX4_init_27 : decode cX4_init 27 = .ok (.putfield 18, 3) := by decide +kernel
theorem dX4_init_30 : decode cX4_init 30 = .ok (.aload_n 0, 1) := by decide +kernel
theorem dX4_init_31 : decode cX4_init 31 = .ok (.bipush 12, 2) := by decide +kernel
theorem dX4_init_33 : decode cX4_init 33 = .ok (.newarray .int, 2) := by decide +kernel
theorem dX4_init_35 : decode cX4_init 35 = .ok (.putfield 21, 3) := by decide +kernel
theorem dX4_init_38 : decode cX4_init 38 = .ok (.aload_n 0, 1) := by decide +kernel
theorem dX4_init_39 : decode cX4_init 39 = .ok (.bipush 6, 2) := by decide +kernel
theorem dX4_init_41 : decode cX4_init 41 = .ok (.newarray .int, 2) := by decide +kernel
theorem dX4_init_43 : decode cX4_init 43 = .ok (.putfield 24, 3) := by decide +kernel
theorem dX4_init_46 : decode cX4_init 46 = .ok (.aload_n 0, 1) := by decide +kernel
theorem dX4_init_47 : decode cX4_init 47 = .ok (.bipush 64, 2) := by decide +kernel
theorem dX4_init_49 : decode cX4_init 49 = .ok (.newarray .boolean, 2) := by decide +kernel
theorem dX4_init_51 : decode cX4_init 51 = .ok (.putfield 27, 3) := by decide +kernel
theorem dX4_init_54 : decode cX4_init 54 = .ok (.aload_n 0, 1) := by decide +kernel
theorem dX4_init_55 : decode cX4_init 55 = .ok (.iconst 1, 1) := by decide +kernel
theorem dX4_init_56 : decode cX4_init 56 = .ok (.putfield 31, 3) := by decide +kernel
theorem dX4_init_59 : decode cX4_init 59 = .ok (.aload_n 0, 1) := by decide +kernel
theorem dX4_init_60 : decode cX4_init 60 = .ok (.iconst 1, 1) := by decide +kernel
theorem dX4_init_61 : decode cX4_init 61 = .ok (.putfield 35, 3) := by decide +kernel
theorem dX4_init_64 : decode cX4_init 64 = .ok (.aload_n 0, 1) := by decide +kernel
theorem dX4_init_65 : decode cX4_init 65 = .ok (.iconst 1, 1) := by decide +kernel
theorem dX4_init_66 : decode cX4_init 66 = .ok (.putfield 38, 3) := by decide +kernel
theorem dX4_init_69 : decode cX4_init 69 = .ok (.aload_n 0, 1) := by decide +kernel
theorem dX4_init_70 : decode cX4_init 70 = .ok (.aload_n 1, 1) := by decide +kernel
theorem dX4_init_71 : decode cX4_init 71 = .ok (.putfield 41, 3) := by decide +kernel
theorem dX4_init_74 : decode cX4_init 74 = .ok (.return_, 1) := by decide +kernel
theorem dX4_layStrikes_0 : decode cX4_layStrikes 0 = .ok (.aload_n 0, 1) := by decide +kernel
theorem dX4_layStrikes_1 : decode cX4_layStrikes 1 = .ok (.aload_n 1, 1) := by decide +kernel
theorem dX4_layStrikes_2 : decode cX4_layStrikes 2 = .ok (.aconst_null, 1) := by decide +kernel
theorem dX4_layStrikes_3 : decode cX4_layStrikes 3 = .ok (.iconst 0, 1) := by decide +kernel
theorem dX4_layStrikes_4 : decode cX4_layStrikes 4 = .ok (.invokevirtual 45, 3) := by decide +kernel
theorem dX4_layStrikes_7 : decode cX4_layStrikes 7 = .ok (.return_, 1) := by decide +kernel
theorem dX4_laySounds_0 : decode cX4_laySounds 0 = .ok (.aload_n 0, 1) := by decide +kernel
theorem dX4_laySounds_1 : decode cX4_laySounds 1 = .ok (.aload_n 1, 1) := by decide +kernel
theorem dX4_laySounds_2 : decode cX4_laySounds 2 = .ok (.aload_n 2, 1) := by decide +kernel
theorem dX4_laySounds_3 : decode cX4_laySounds 3 = .ok (.iconst 1, 1) := by decide +kernel
theorem dX4_laySounds_4 : decode cX4_laySounds 4 = .ok (.invokevirtual 45, 3) := by decide +kernel
theorem dX4_laySounds_7 : decode cX4_laySounds 7 = .ok (.return_, 1) := by decide +kernel
theorem dX4_lay_0 : decode cX4_lay 0 = .ok (.aload_n 0, 1) := by decide +kernel
theorem dX4_lay_1 : decode cX4_lay 1 = .ok (.aload_n 1, 1) := by decide +kernel
theorem dX4_lay_2 : decode cX4_lay 2 = .ok (.iconst 0, 1) := by decide +kernel
theorem dX4_lay_3 : decode cX4_lay 3 = .ok (.bipush 6, 2) := by decide +kernel
theorem dX4_lay_5 : decode cX4_lay 5 = .ok (.invokevirtual 49, 3) := by decide +kernel
theorem dX4_lay_8 : decode cX4_lay 8 = .ok (.putfield 38, 3) := by decide +kernel
theorem dX4_lay_11 : decode cX4_lay 11 = .ok (.aload_n 0, 1) := by decide +kernel
theorem dX4_lay_12 : decode cX4_lay 12 = .ok (.aload_n 1, 1) := by decide +kernel
theorem dX4_lay_13 : decode cX4_lay 13 = .ok (.iconst 0, 1) := by decide +kernel
theorem dX4_lay_14 : decode cX4_lay 14 = .ok (.iconst 3, 1) := by decide +kernel
theorem dX4_lay_15 : decode cX4_lay 15 = .ok (.invokevirtual 49, 3) := by decide +kernel
theorem dX4_lay_18 : decode cX4_lay 18 = .ok (.sipush 990, 3) := by decide +kernel
theorem dX4_lay_21 : decode cX4_lay 21 = .ok (.invokestatic 55, 3) := by decide +kernel
theorem dX4_lay_24 : decode cX4_lay 24 = .ok (.putfield 31, 3) := by decide +kernel
theorem dX4_lay_27 : decode cX4_lay 27 = .ok (.aload_n 0, 1) := by decide +kernel
theorem dX4_lay_28 : decode cX4_lay 28 = .ok (.aload_n 1, 1) := by decide +kernel
theorem dX4_lay_29 : decode cX4_lay 29 = .ok (.iconst 3, 1) := by decide +kernel
theorem dX4_lay_30 : decode cX4_lay 30 = .ok (.bipush 6, 2) := by decide +kernel
theorem dX4_lay_32 : decode cX4_lay 32 = .ok (.invokevirtual 49, 3) := by decide +kernel
theorem dX4_lay_35 : decode cX4_lay 35 = .ok (.sipush 990, 3) := by decide +kernel
theorem dX4_lay_38 : decode cX4_lay 38 = .ok (.invokestatic 55, 3) := by decide +kernel
theorem dX4_lay_41 : decode cX4_lay 41 = .ok (.putfield 35, 3) := by decide +kernel
theorem dX4_lay_44 : decode cX4_lay 44 = .ok (.aload_n 0, 1) := by decide +kernel
theorem dX4_lay_45 : decode cX4_lay 45 = .ok (.getfield 11, 3) := by decide +kernel
theorem dX4_lay_48 : decode cX4_lay 48 = .ok (.aload_n 0, 1) := by decide +kernel
theorem dX4_lay_49 : decode cX4_lay 49 = .ok (.getfield 31, 3) := by decide +kernel
theorem dX4_lay_52 : decode cX4_lay 52 = .ok (.invokestatic 60, 3) := by decide +kernel
theorem dX4_lay_55 : decode cX4_lay 55 = .ok (.aload_n 0, 1) := by decide +kernel
theorem dX4_lay_56 : decode cX4_lay 56 = .ok (.getfield 15, 3) := by decide +kernel
theorem dX4_lay_59 : decode cX4_lay 59 = .ok (.aload_n 0, 1) := by decide +kernel
theorem dX4_lay_60 : decode cX4_lay 60 = .ok (.getfield 35, 3) := by decide +kernel
theorem dX4_lay_63 : decode cX4_lay 63 = .ok (.invokestatic 60, 3) := by decide +kernel
theorem dX4_lay_66 : decode cX4_lay 66 = .ok (.iconst 0, 1) := by decide +kernel
theorem dX4_lay_67 : decode cX4_lay 67 = .ok (.istore 4, 2) := by decide +kernel
theorem dX4_lay_69 : decode cX4_lay 69 = .ok (.iload 4, 2) := by decide +kernel
theorem dX4_lay_71 : decode cX4_lay 71 = .ok (.aload_n 1, 1) := by decide +kernel
theorem dX4_lay_72 : decode cX4_lay 72 = .ok (.getfield 64, 3) := by decide +kernel
theorem dX4_lay_75 : decode cX4_lay 75 = .ok (.if_icmp .ge 73, 3) := by decide +kernel
theorem dX4_lay_78 : decode cX4_lay 78 = .ok (.iload 4, 2) := by decide +kernel
theorem dX4_lay_80 : decode cX4_lay 80 = .ok (.bipush 6, 2) := by decide +kernel
theorem dX4_lay_82 : decode cX4_lay 82 = .ok (.if_icmp .ge 66, 3) := by decide +kernel
theorem dX4_lay_85 : decode cX4_lay 85 = .ok (.aload_n 1, 1) := by decide +kernel
theorem dX4_lay_86 : decode cX4_lay 86 = .ok (.iload 4, 2) := by decide +kernel
theorem dX4_lay_88 : decode cX4_lay 88 = .ok (.invokevirtual 67, 3) := by decide +kernel
theorem dX4_lay_91 : decode cX4_lay 91 = .ok (.ifCond .ne 51, 3) := by decide +kernel
theorem dX4_lay_94 : decode cX4_lay 94 = .ok (.aload_n 0, 1) := by decide +kernel
theorem dX4_lay_95 : decode cX4_lay 95 = .ok (.aload_n 1, 1) := by decide +kernel
theorem dX4_lay_96 : decode cX4_lay 96 = .ok (.iload 4, 2) := by decide +kernel
theorem dX4_lay_98 : decode cX4_lay 98 = .ok (.aload_n 2, 1) := by decide +kernel
theorem dX4_lay_99 : decode cX4_lay 99 = .ok (.iload_n 3, 1) := by decide +kernel
theorem dX4_lay_100 : decode cX4_lay 100 = .ok (.invokevirtual 71, 3) := by decide +kernel
theorem dX4_lay_103 : decode cX4_lay 103 = .ok (.iload 4, 2) := by decide +kernel
theorem dX4_lay_105 : decode cX4_lay 105 = .ok (.iconst 3, 1) := by decide +kernel
theorem dX4_lay_106 : decode cX4_lay 106 = .ok (.if_icmp .ge 21, 3) := by decide +kernel
theorem dX4_lay_109 : decode cX4_lay 109 = .ok (.aload_n 0, 1) := by decide +kernel
theorem dX4_lay_110 : decode cX4_lay 110 = .ok (.aload_n 1, 1) := by decide +kernel
theorem dX4_lay_111 : decode cX4_lay 111 = .ok (.iload 4, 2) := by decide +kernel
theorem dX4_lay_113 : decode cX4_lay 113 = .ok (.aload_n 0, 1) := by decide +kernel
theorem dX4_lay_114 : decode cX4_lay 114 = .ok (.getfield 11, 3) := by decide +kernel
theorem dX4_lay_117 : decode cX4_lay 117 = .ok (.aload_n 0, 1) := by decide +kernel
theorem dX4_lay_118 : decode cX4_lay 118 = .ok (.getfield 31, 3) := by decide +kernel
theorem dX4_lay_121 : decode cX4_lay 121 = .ok (.invokevirtual 75, 3) := by decide +kernel
theorem dX4_lay_124 : decode cX4_lay 124 = .ok (.goto 18, 3) := by decide +kernel
theorem dX4_lay_127 : decode cX4_lay 127 = .ok (.aload_n 0, 1) := by decide +kernel
theorem dX4_lay_128 : decode cX4_lay 128 = .ok (.aload_n 1, 1) := by decide +kernel
theorem dX4_lay_129 : decode cX4_lay 129 = .ok (.iload 4, 2) := by decide +kernel
theorem dX4_lay_131 : decode cX4_lay 131 = .ok (.aload_n 0, 1) := by decide +kernel
theorem dX4_lay_132 : decode cX4_lay 132 = .ok (.getfield 15, 3) := by decide +kernel
theorem dX4_lay_135 : decode cX4_lay 135 = .ok (.aload_n 0, 1) := by decide +kernel
theorem dX4_lay_136 : decode cX4_lay 136 = .ok (.getfield 35, 3) := by decide +kernel
theorem dX4_lay_139 : decode cX4_lay 139 = .ok (.invokevirtual 75, 3) := by decide +kernel
theorem dX4_lay_142 : decode cX4_lay 142 = .ok (.iinc 4 1, 3) := by decide +kernel
theorem dX4_lay_145 : decode cX4_lay 145 = .ok (.goto (-76), 3) := by decide +kernel
theorem dX4_lay_148 : decode cX4_lay 148 = .ok (.return_, 1) := by decide +kernel
theorem dX4_clear_0 : decode cX4_clear 0 = .ok (.iconst 0, 1) := by decide +kernel
theorem dX4_clear_1 : decode cX4_clear 1 = .ok (.istore_n 2, 1) := by decide +kernel
theorem dX4_clear_2 : decode cX4_clear 2 = .ok (.iload_n 2, 1) := by decide +kernel
theorem dX4_clear_3 : decode cX4_clear 3 = .ok (.iload_n 1, 1) := by decide +kernel
theorem dX4_clear_4 : decode cX4_clear 4 = .ok (.if_icmp .ge 19, 3) := by decide +kernel
theorem dX4_clear_7 : decode cX4_clear 7 = .ok (.iload_n 2, 1) := by decide +kernel
theorem dX4_clear_8 : decode cX4_clear 8 = .ok (.aload_n 0, 1) := by decide +kernel
theorem dX4_clear_9 : decode cX4_clear 9 = .ok (.arraylength, 1) := by decide +kernel
theorem dX4_clear_10 : decode cX4_clear 10 = .ok (.if_icmp .ge 13, 3) := by decide +kernel
theorem dX4_clear_13 : decode cX4_clear 13 = .ok (.aload_n 0, 1) := by decide +kernel
theorem dX4_clear_14 : decode cX4_clear 14 = .ok (.iload_n 2, 1) := by decide +kernel
theorem dX4_clear_15 : decode cX4_clear 15 = .ok (.iconst 0, 1) := by decide +kernel
theorem dX4_clear_16 : decode cX4_clear 16 = .ok (.iastore, 1) := by decide +kernel
theorem dX4_clear_17 : decode cX4_clear 17 = .ok (.iinc 2 1, 3) := by decide +kernel
theorem dX4_clear_20 : decode cX4_clear 20 = .ok (.goto (-18), 3) := by decide +kernel
theorem dX4_clear_23 : decode cX4_clear 23 = .ok (.return_, 1) := by decide +kernel
theorem dX4_setCells_0 : decode cX4_setCells 0 = .ok (.iconst 0, 1) := by decide +kernel
theorem dX4_setCells_1 : decode cX4_setCells 1 = .ok (.istore 5, 2) := by decide +kernel
theorem dX4_setCells_3 : decode cX4_setCells 3 = .ok (.iload 5, 2) := by decide +kernel
theorem dX4_setCells_5 : decode cX4_setCells 5 = .ok (.bipush 12, 2) := by decide +kernel
theorem dX4_setCells_7 : decode cX4_setCells 7 = .ok (.if_icmp .ge 73, 3) := by decide +kernel
theorem dX4_setCells_10 : decode cX4_setCells 10 = .ok (.aload_n 0, 1) := by decide +kernel
theorem dX4_setCells_11 : decode cX4_setCells 11 = .ok (.getfield 18, 3) := by decide +kernel
theorem dX4_setCells_14 : decode cX4_setCells 14 = .ok (.iload 5, 2) := by decide +kernel
theorem dX4_setCells_16 : decode cX4_setCells 16 = .ok (.aload_n 1, 1) := by decide +kernel
theorem dX4_setCells_17 : decode cX4_setCells 17 = .ok (.iload_n 2, 1) := by decide +kernel
theorem dX4_setCells_18 : decode cX4_setCells 18 = .ok (.iload 5, 2) := by decide +kernel
theorem dX4_setCells_20 : decode cX4_setCells 20 = .ok (.invokevirtual 79, 3) := by decide +kernel
theorem dX4_setCells_23 : decode cX4_setCells 23 = .ok (.ifCond .eq 9, 3) := by decide +kernel
theorem dX4_setCells_26 : decode cX4_setCells 26 = .ok (.iconst 1, 1) := by decide +kernel
theorem dX4_setCells_27 : decode cX4_setCells 27 = .ok (.iload_n 2, 1) := by decide +kernel
theorem dX4_setCells_28 : decode cX4_setCells 28 = .ok (.ishl, 1) := by decide +kernel
theorem dX4_setCells_29 : decode cX4_setCells 29 = .ok (.goto 4, 3) := by decide +kernel
theorem dX4_setCells_32 : decode cX4_setCells 32 = .ok (.iconst 0, 1) := by decide +kernel
theorem dX4_setCells_33 : decode cX4_setCells 33 = .ok (.iastore, 1) := by decide +kernel
theorem dX4_setCells_34 : decode cX4_setCells 34 = .ok (.iload 4, 2) := by decide +kernel
theorem dX4_setCells_36 : decode cX4_setCells 36 = .ok (.ifCond .eq 38, 3) := by decide +kernel
theorem dX4_setCells_39 : decode cX4_setCells 39 = .ok (.aload_n 0, 1) := by decide +kernel
theorem dX4_setCells_40 : decode cX4_setCells 40 = .ok (.getfield 18, 3) := by decide +kernel
theorem dX4_setCells_43 : decode cX4_setCells 43 = .ok (.iload 5, 2) := by decide +kernel
theorem dX4_setCells_45 : decode cX4_setCells 45 = .ok (.iaload, 1) := by decide +kernel
theorem dX4_setCells_46 : decode cX4_setCells 46 = .ok (.ifCond .eq 28, 3) := by decide +kernel
theorem dX4_setCells_49 : decode cX4_setCells 49 = .ok (.aload_n 0, 1) := by decide +kernel
theorem dX4_setCells_50 : decode cX4_setCells 50 = .ok (.getfield 18, 3) := by decide +kernel
theorem dX4_setCells_53 : decode cX4_setCells 53 = .ok (.iload 5, 2) := by decide +kernel
theorem dX4_setCells_55 : decode cX4_setCells 55 = .ok (.dup2, 1) := by decide +kernel
theorem dX4_setCells_56 : decode cX4_setCells 56 = .ok (.iaload, 1) := by decide +kernel
theorem dX4_setCells_57 : decode cX4_setCells 57 = .ok (.aload_n 0, 1) := by decide +kernel
theorem dX4_setCells_58 : decode cX4_setCells 58 = .ok (.getfield 41, 3) := by decide +kernel
theorem dX4_setCells_61 : decode cX4_setCells 61 = .ok (.aload_n 1, 1) := by decide +kernel
theorem dX4_setCells_62 : decode cX4_setCells 62 = .ok (.aload_n 3, 1) := by decide +kernel
theorem dX4_setCells_63 : decode cX4_setCells 63 = .ok (.iload_n 2, 1) := by decide +kernel
theorem dX4_setCells_64 : decode cX4_setCells 64 = .ok (.iload 5, 2) := by decide +kernel
theorem dX4_setCells_66 : decode cX4_setCells 66 = .ok (.invokevirtual 83, 3) := by decide +kernel
theorem dX4_setCells_69 : decode cX4_setCells 69 = .ok (.bipush 6, 2) := by decide +kernel
theorem dX4_setCells_71 : decode cX4_setCells 71 = .ok (.ishl, 1) := by decide +kernel
theorem dX4_setCells_72 : decode cX4_setCells 72 = .ok (.ior, 1) := by decide +kernel
theorem dX4_setCells_73 : decode cX4_setCells 73 = .ok (.iastore, 1) := by decide +kernel
theorem dX4_setCells_74 : decode cX4_setCells 74 = .ok (.iinc 5 1, 3) := by decide +kernel
theorem dX4_setCells_77 : decode cX4_setCells 77 = .ok (.goto (-74), 3) := by decide +kernel
theorem dX4_setCells_80 : decode cX4_setCells 80 = .ok (.return_, 1) := by decide +kernel
theorem dX4_layDrum_0 : decode cX4_layDrum 0 = .ok (.aload_n 1, 1) := by decide +kernel
theorem dX4_layDrum_1 : decode cX4_layDrum 1 = .ok (.getfield 89, 3) := by decide +kernel
theorem dX4_layDrum_4 : decode cX4_layDrum 4 = .ok (.iload_n 2, 1) := by decide +kernel
theorem dX4_layDrum_5 : decode cX4_layDrum 5 = .ok (.iaload, 1) := by decide +kernel
theorem dX4_layDrum_6 : decode cX4_layDrum 6 = .ok (.istore 5, 2) := by decide +kernel
theorem dX4_layDrum_8 : decode cX4_layDrum 8 = .ok (.iconst 0, 1) := by decide +kernel
theorem dX4_layDrum_9 : decode cX4_layDrum 9 = .ok (.istore 6, 2) := by decide +kernel
theorem dX4_layDrum_11 : decode cX4_layDrum 11 = .ok (.iload 6, 2) := by decide +kernel
theorem dX4_layDrum_13 : decode cX4_layDrum 13 = .ok (.iload 4, 2) := by decide +kernel
theorem dX4_layDrum_15 : decode cX4_layDrum 15 = .ok (.if_icmp .ge 66, 3) := by decide +kernel
theorem dX4_layDrum_18 : decode cX4_layDrum 18 = .ok (.iload 6, 2) := by decide +kernel
theorem dX4_layDrum_20 : decode cX4_layDrum 20 = .ok (.aload_n 3, 1) := by decide +kernel
theorem dX4_layDrum_21 : decode cX4_layDrum 21 = .ok (.arraylength, 1) := by decide +kernel
theorem dX4_layDrum_22 : decode cX4_layDrum 22 = .ok (.if_icmp .ge 59, 3) := by decide +kernel
theorem dX4_layDrum_25 : decode cX4_layDrum 25 = .ok (.iload 5, 2) := by decide +kernel
theorem dX4_layDrum_27 : decode cX4_layDrum 27 = .ok (.ifCond .lt 10, 3) := by decide +kernel
theorem dX4_layDrum_30 : decode cX4_layDrum 30 = .ok (.iload 5, 2) := by decide +kernel
theorem dX4_layDrum_32 : decode cX4_layDrum 32 = .ok (.bipush 12, 2) := by decide +kernel
theorem dX4_layDrum_34 : decode cX4_layDrum 34 = .ok (.if_icmp .lt 4, 3) := by decide +kernel
theorem dX4_layDrum_37 : decode cX4_layDrum 37 = .ok (.return_, 1) := by decide +kernel
theorem dX4_layDrum_38 : decode cX4_layDrum 38 = .ok (.aload_n 3, 1) := by decide +kernel
theorem dX4_layDrum_39 : decode cX4_layDrum 39 = .ok (.iload 6, 2) := by decide +kernel
theorem dX4_layDrum_41 : decode cX4_layDrum 41 = .ok (.dup2, 1) := by decide +kernel
theorem dX4_layDrum_42 : decode cX4_layDrum 42 = .ok (.iaload, 1) := by decide +kernel
theorem dX4_layDrum_43 : decode cX4_layDrum 43 = .ok (.aload_n 0, 1) := by decide +kernel
theorem dX4_layDrum_44 : decode cX4_layDrum 44 = .ok (.getfield 18, 3) := by decide +kernel
theorem dX4_layDrum_47 : decode cX4_layDrum 47 = .ok (.iload 5, 2) := by decide +kernel
theorem dX4_layDrum_49 : decode cX4_layDrum 49 = .ok (.iaload, 1) := by decide +kernel
theorem dX4_layDrum_50 : decode cX4_layDrum 50 = .ok (.iadd, 1) := by decide +kernel
theorem dX4_layDrum_51 : decode cX4_layDrum 51 = .ok (.iastore, 1) := by decide +kernel
theorem dX4_layDrum_52 : decode cX4_layDrum 52 = .ok (.iload 5, 2) := by decide +kernel
theorem dX4_layDrum_54 : decode cX4_layDrum 54 = .ok (.iconst 1, 1) := by decide +kernel
theorem dX4_layDrum_55 : decode cX4_layDrum 55 = .ok (.iadd, 1) := by decide +kernel
theorem dX4_layDrum_56 : decode cX4_layDrum 56 = .ok (.aload_n 1, 1) := by decide +kernel
theorem dX4_layDrum_57 : decode cX4_layDrum 57 = .ok (.getfield 92, 3) := by decide +kernel
theorem dX4_layDrum_60 : decode cX4_layDrum 60 = .ok (.iload_n 2, 1) := by decide +kernel
theorem dX4_layDrum_61 : decode cX4_layDrum 61 = .ok (.iaload, 1) := by decide +kernel
theorem dX4_layDrum_62 : decode cX4_layDrum 62 = .ok (.if_icmp .ge 10, 3) := by decide +kernel
theorem dX4_layDrum_65 : decode cX4_layDrum 65 = .ok (.iload 5, 2) := by decide +kernel
theorem dX4_layDrum_67 : decode cX4_layDrum 67 = .ok (.iconst 1, 1) := by decide +kernel
theorem dX4_layDrum_68 : decode cX4_layDrum 68 = .ok (.iadd, 1) := by decide +kernel
theorem dX4_layDrum_69 : decode cX4_layDrum 69 = .ok (.goto 4, 3) := by decide +kernel
theorem dX4_layDrum_72 : decode cX4_layDrum 72 = .ok (.iconst 0, 1) := by decide +kernel
theorem dX4_layDrum_73 : decode cX4_layDrum 73 = .ok (.istore 5, 2) := by decide +kernel
theorem dX4_layDrum_75 : decode cX4_layDrum 75 = .ok (.iinc 6 1, 3) := by decide +kernel
theorem dX4_layDrum_78 : decode cX4_layDrum 78 = .ok (.goto (-67), 3) := by decide +kernel
theorem dX4_layDrum_81 : decode cX4_layDrum 81 = .ok (.return_, 1) := by decide +kernel
theorem dX4_cellIn_0 : decode cX4_cellIn 0 = .ok (.iload_n 1, 1) := by decide +kernel
theorem dX4_cellIn_1 : decode cX4_cellIn 1 = .ok (.ifCond .lt 19, 3) := by decide +kernel
theorem dX4_cellIn_4 : decode cX4_cellIn 4 = .ok (.aload_n 0, 1) := by decide +kernel
theorem dX4_cellIn_5 : decode cX4_cellIn 5 = .ok (.getfield 31, 3) := by decide +kernel
theorem dX4_cellIn_8 : decode cX4_cellIn 8 = .ok (.iconst 1, 1) := by decide +kernel
theorem dX4_cellIn_9 : decode cX4_cellIn 9 = .ok (.if_icmp .lt 11, 3) := by decide +kernel
theorem dX4_cellIn_12 : decode cX4_cellIn 12 = .ok (.aload_n 0, 1) := by decide +kernel
theorem dX4_cellIn_13 : decode cX4_cellIn 13 = .ok (.getfield 35, 3) := by decide +kernel
theorem dX4_cellIn_16 : decode cX4_cellIn 16 = .ok (.iconst 1, 1) := by decide +kernel
theorem dX4_cellIn_17 : decode cX4_cellIn 17 = .ok (.if_icmp .ge 5, 3) := by decide +kernel
theorem dX4_cellIn_20 : decode cX4_cellIn 20 = .ok (.iconst 0, 1) := by decide +kernel
theorem dX4_cellIn_21 : decode cX4_cellIn 21 = .ok (.ireturn, 1) := by decide +kernel
theorem dX4_cellIn_22 : decode cX4_cellIn 22 = .ok (.aload_n 0, 1) := by decide +kernel
theorem dX4_cellIn_23 : decode cX4_cellIn 23 = .ok (.getfield 11, 3) := by decide +kernel
theorem dX4_cellIn_26 : decode cX4_cellIn 26 = .ok (.iload_n 1, 1) := by decide +kernel
theorem dX4_cellIn_27 : decode cX4_cellIn 27 = .ok (.aload_n 0, 1) := by decide +kernel
theorem dX4_cellIn_28 : decode cX4_cellIn 28 = .ok (.getfield 31, 3) := by decide +kernel
theorem dX4_cellIn_31 : decode cX4_cellIn 31 = .ok (.irem, 1) := by decide +kernel
theorem dX4_cellIn_32 : decode cX4_cellIn 32 = .ok (.iaload, 1) := by decide +kernel
theorem dX4_cellIn_33 : decode cX4_cellIn 33 = .ok (.aload_n 0, 1) := by decide +kernel
theorem dX4_cellIn_34 : decode cX4_cellIn 34 = .ok (.getfield 15, 3) := by decide +kernel
theorem dX4_cellIn_37 : decode cX4_cellIn 37 = .ok (.iload_n 1, 1) := by decide +kernel
theorem dX4_cellIn_38 : decode cX4_cellIn 38 = .ok (.aload_n 0, 1) := by decide +kernel
theorem dX4_cellIn_39 : decode cX4_cellIn 39 = .ok (.getfield 35, 3) := by decide +kernel
theorem dX4_cellIn_42 : decode cX4_cellIn 42 = .ok (.irem, 1) := by decide +kernel
theorem dX4_cellIn_43 : decode cX4_cellIn 43 = .ok (.iaload, 1) := by decide +kernel
theorem dX4_cellIn_44 : decode cX4_cellIn 44 = .ok (.iadd, 1) := by decide +kernel
theorem dX4_cellIn_45 : decode cX4_cellIn 45 = .ok (.ireturn, 1) := by decide +kernel
theorem dX4_strikersIn_0 : decode cX4_strikersIn 0 = .ok (.aload_n 0, 1) := by decide +kernel
theorem dX4_strikersIn_1 : decode cX4_strikersIn 1 = .ok (.iload_n 1, 1) := by decide +kernel
theorem dX4_strikersIn_2 : decode cX4_strikersIn 2 = .ok (.invokevirtual 95, 3) := by decide +kernel
theorem dX4_strikersIn_5 : decode cX4_strikersIn 5 = .ok (.bipush 63, 2) := by decide +kernel
theorem dX4_strikersIn_7 : decode cX4_strikersIn 7 = .ok (.iand, 1) := by decide +kernel
theorem dX4_strikersIn_8 : decode cX4_strikersIn 8 = .ok (.ireturn, 1) := by decide +kernel
theorem dX4_loudnessIn_0 : decode cX4_loudnessIn 0 = .ok (.aload_n 0, 1) := by decide +kernel
theorem dX4_loudnessIn_1 : decode cX4_loudnessIn 1 = .ok (.iload_n 1, 1) := by decide +kernel
theorem dX4_loudnessIn_2 : decode cX4_loudnessIn 2 = .ok (.invokevirtual 95, 3) := by decide +kernel
theorem dX4_loudnessIn_5 : decode cX4_loudnessIn 5 = .ok (.bipush 6, 2) := by decide +kernel
theorem dX4_loudnessIn_7 : decode cX4_loudnessIn 7 = .ok (.ishr, 1) := by decide +kernel
theorem dX4_loudnessIn_8 : decode cX4_loudnessIn 8 = .ok (.ireturn, 1) := by decide +kernel
theorem dX4_firstOf_0 : decode cX4_firstOf 0 = .ok (.iconst 0, 1) := by decide +kernel
theorem dX4_firstOf_1 : decode cX4_firstOf 1 = .ok (.istore_n 2, 1) := by decide +kernel
theorem dX4_firstOf_2 : decode cX4_firstOf 2 = .ok (.iload_n 2, 1) := by decide +kernel
theorem dX4_firstOf_3 : decode cX4_firstOf 3 = .ok (.aload_n 0, 1) := by decide +kernel
theorem dX4_firstOf_4 : decode cX4_firstOf 4 = .ok (.getfield 38, 3) := by decide +kernel
theorem dX4_firstOf_7 : decode cX4_firstOf 7 = .ok (.if_icmp .ge 22, 3) := by decide +kernel
theorem dX4_firstOf_10 : decode cX4_firstOf 10 = .ok (.aload_n 0, 1) := by decide +kernel
theorem dX4_firstOf_11 : decode cX4_firstOf 11 = .ok (.iload_n 2, 1) := by decide +kernel
theorem dX4_firstOf_12 : decode cX4_firstOf 12 = .ok (.invokevirtual 99, 3) := by decide +kernel
theorem dX4_firstOf_15 : decode cX4_firstOf 15 = .ok (.iload_n 1, 1) := by decide +kernel
theorem dX4_firstOf_16 : decode cX4_firstOf 16 = .ok (.iand, 1) := by decide +kernel
theorem dX4_firstOf_17 : decode cX4_firstOf 17 = .ok (.iload_n 1, 1) := by decide +kernel
theorem dX4_firstOf_18 : decode cX4_firstOf 18 = .ok (.if_icmp .ne 5, 3) := by decide +kernel
theorem dX4_firstOf_21 : decode cX4_firstOf 21 = .ok (.iload_n 2, 1) := by decide +kernel
theorem dX4_firstOf_22 : decode cX4_firstOf 22 = .ok (.ireturn, 1) := by decide +kernel
theorem dX4_firstOf_23 : decode cX4_firstOf 23 = .ok (.iinc 2 1, 3) := by decide +kernel
theorem dX4_firstOf_26 : decode cX4_firstOf 26 = .ok (.goto (-24), 3) := by decide +kernel
theorem dX4_firstOf_29 : decode cX4_firstOf 29 = .ok (.iconst (-1), 1) := by decide +kernel
theorem dX4_firstOf_30 : decode cX4_firstOf 30 = .ok (.ireturn, 1) := by decide +kernel
theorem dX4_timesOf_0 : decode cX4_timesOf 0 = .ok (.iconst 0, 1) := by decide +kernel
theorem dX4_timesOf_1 : decode cX4_timesOf 1 = .ok (.istore_n 3, 1) := by decide +kernel
theorem dX4_timesOf_2 : decode cX4_timesOf 2 = .ok (.iconst 0, 1) := by decide +kernel
theorem dX4_timesOf_3 : decode cX4_timesOf 3 = .ok (.istore 4, 2) := by decide +kernel
theorem dX4_timesOf_5 : decode cX4_timesOf 5 = .ok (.iload 4, 2) := by decide +kernel
theorem dX4_timesOf_7 : decode cX4_timesOf 7 = .ok (.aload_n 0, 1) := by decide +kernel
theorem dX4_timesOf_8 : decode cX4_timesOf 8 = .ok (.getfield 38, 3) := by decide +kernel
theorem dX4_timesOf_11 : decode cX4_timesOf 11 = .ok (.if_icmp .ge 24, 3) := by decide +kernel
theorem dX4_timesOf_14 : decode cX4_timesOf 14 = .ok (.aload_n 0, 1) := by decide +kernel
theorem dX4_timesOf_15 : decode cX4_timesOf 15 = .ok (.iload 4, 2) := by decide +kernel
theorem dX4_timesOf_17 : decode cX4_timesOf 17 = .ok (.invokevirtual 99, 3) := by decide +kernel
theorem dX4_timesOf_20 : decode cX4_timesOf 20 = .ok (.iload_n 1, 1) := by decide +kernel
theorem dX4_timesOf_21 : decode cX4_timesOf 21 = .ok (.iand, 1) := by decide +kernel
theorem dX4_timesOf_22 : decode cX4_timesOf 22 = .ok (.iload_n 2, 1) := by decide +kernel
theorem dX4_timesOf_23 : decode cX4_timesOf 23 = .ok (.if_icmp .ne 6, 3) := by decide +kernel
theorem dX4_timesOf_26 : decode cX4_timesOf 26 = .ok (.iinc 3 1, 3) := by decide +kernel
theorem dX4_timesOf_29 : decode cX4_timesOf 29 = .ok (.iinc 4 1, 3) := by decide +kernel
theorem dX4_timesOf_32 : decode cX4_timesOf 32 = .ok (.goto (-27), 3) := by decide +kernel
theorem dX4_timesOf_35 : decode cX4_timesOf 35 = .ok (.iload_n 3, 1) := by decide +kernel
theorem dX4_timesOf_36 : decode cX4_timesOf 36 = .ok (.ireturn, 1) := by decide +kernel
theorem dX4_loudTogether_0 : decode cX4_loudTogether 0 = .ok (.iconst 0, 1) := by decide +kernel
theorem dX4_loudTogether_1 : decode cX4_loudTogether 1 = .ok (.istore_n 1, 1) := by decide +kernel
theorem dX4_loudTogether_2 : decode cX4_loudTogether 2 = .ok (.iconst 0, 1) := by decide +kernel
theorem dX4_loudTogether_3 : decode cX4_loudTogether 3 = .ok (.istore_n 2, 1) := by decide +kernel
theorem dX4_loudTogether_4 : decode cX4_loudTogether 4 = .ok (.iload_n 2, 1) := by decide +kernel
theorem dX4_loudTogether_5 : decode cX4_loudTogether 5 = .ok (.aload_n 0, 1) := by decide +kernel
theorem dX4_loudTogether_6 : decode cX4_loudTogether 6 = .ok (.getfield 38, 3) := by decide +kernel
theorem dX4_loudTogether_9 : decode cX4_loudTogether 9 = .ok (.if_icmp .ge 17, 3) := by decide +kernel
theorem dX4_loudTogether_12 : decode cX4_loudTogether 12 = .ok (.iload_n 1, 1) := by decide +kernel
theorem dX4_loudTogether_13 : decode cX4_loudTogether 13 = .ok (.aload_n 0, 1) := by decide +kernel
theorem dX4_loudTogether_14 : decode cX4_loudTogether 14 = .ok (.iload_n 2, 1) := by decide +kernel
theorem dX4_loudTogether_15 : decode cX4_loudTogether 15 = .ok (.invokevirtual 102, 3) := by decide +kernel
theorem dX4_loudTogether_18 : decode cX4_loudTogether 18 = .ok (.iadd, 1) := by decide +kernel
theorem dX4_loudTogether_19 : decode cX4_loudTogether 19 = .ok (.istore_n 1, 1) := by decide +kernel
theorem dX4_loudTogether_20 : decode cX4_loudTogether 20 = .ok (.iinc 2 1, 3) := by decide +kernel
theorem dX4_loudTogether_23 : decode cX4_loudTogether 23 = .ok (.goto (-19), 3) := by decide +kernel
theorem dX4_loudTogether_26 : decode cX4_loudTogether 26 = .ok (.iload_n 1, 1) := by decide +kernel
theorem dX4_loudTogether_27 : decode cX4_loudTogether 27 = .ok (.ireturn, 1) := by decide +kernel
theorem dX4_loudestHour_0 : decode cX4_loudestHour 0 = .ok (.iconst (-1), 1) := by decide +kernel
theorem dX4_loudestHour_1 : decode cX4_loudestHour 1 = .ok (.istore_n 2, 1) := by decide +kernel
theorem dX4_loudestHour_2 : decode cX4_loudestHour 2 = .ok (.iconst 0, 1) := by decide +kernel
theorem dX4_loudestHour_3 : decode cX4_loudestHour 3 = .ok (.istore_n 3, 1) := by decide +kernel
theorem dX4_loudestHour_4 : decode cX4_loudestHour 4 = .ok (.iconst 0, 1) := by decide +kernel
theorem dX4_loudestHour_5 : decode cX4_loudestHour 5 = .ok (.istore 4, 2) := by decide +kernel
theorem dX4_loudestHour_7 : decode cX4_loudestHour 7 = .ok (.iconst 0, 1) := by decide +kernel
theorem dX4_loudestHour_8 : decode cX4_loudestHour 8 = .ok (.istore 5, 2) := by decide +kernel
theorem dX4_loudestHour_10 : decode cX4_loudestHour 10 = .ok (.iload 5, 2) := by decide +kernel
theorem dX4_loudestHour_12 : decode cX4_loudestHour 12 = .ok (.aload_n 0, 1) := by decide +kernel
theorem dX4_loudestHour_13 : decode cX4_loudestHour 13 = .ok (.getfield 38, 3) := by decide +kernel
theorem dX4_loudestHour_16 : decode cX4_loudestHour 16 = .ok (.if_icmp .ge 41, 3) := by decide +kernel
theorem dX4_loudestHour_19 : decode cX4_loudestHour 19 = .ok (.aload_n 0, 1) := by decide +kernel
theorem dX4_loudestHour_20 : decode cX4_loudestHour 20 = .ok (.iload 5, 2) := by decide +kernel
theorem dX4_loudestHour_22 : decode cX4_loudestHour 22 = .ok (.invokevirtual 102, 3) := by decide +kernel
theorem dX4_loudestHour_25 : decode cX4_loudestHour 25 = .ok (.istore 6, 2) := by decide +kernel
theorem dX4_loudestHour_27 : decode cX4_loudestHour 27 = .ok (.iload 6, 2) := by decide +kernel
theorem dX4_loudestHour_29 : decode cX4_loudestHour 29 = .ok (.iload_n 2, 1) := by decide +kernel
theorem dX4_loudestHour_30 : decode cX4_loudestHour 30 = .ok (.if_icmp .le 12, 3) := by decide +kernel
theorem dX4_loudestHour_33 : decode cX4_loudestHour 33 = .ok (.iload 6, 2) := by decide +kernel
theorem dX4_loudestHour_35 : decode cX4_loudestHour 35 = .ok (.istore_n 2, 1) := by decide +kernel
theorem dX4_loudestHour_36 : decode cX4_loudestHour 36 = .ok (.iload 5, 2) := by decide +kernel
theorem dX4_loudestHour_38 : decode cX4_loudestHour 38 = .ok (.istore_n 3, 1) := by decide +kernel
theorem dX4_loudestHour_39 : decode cX4_loudestHour 39 = .ok (.iconst 0, 1) := by decide +kernel
theorem dX4_loudestHour_40 : decode cX4_loudestHour 40 = .ok (.istore 4, 2) := by decide +kernel
theorem dX4_loudestHour_42 : decode cX4_loudestHour 42 = .ok (.iload 6, 2) := by decide +kernel
theorem dX4_loudestHour_44 : decode cX4_loudestHour 44 = .ok (.iload_n 2, 1) := by decide +kernel
theorem dX4_loudestHour_45 : decode cX4_loudestHour 45 = .ok (.if_icmp .ne 6, 3) := by decide +kernel
theorem dX4_loudestHour_48 : decode cX4_loudestHour 48 = .ok (.iinc 4 1, 3) := by decide +kernel
theorem dX4_loudestHour_51 : decode cX4_loudestHour 51 = .ok (.iinc 5 1, 3) := by decide +kernel
theorem dX4_loudestHour_54 : decode cX4_loudestHour 54 = .ok (.goto (-44), 3) := by decide +kernel
theorem dX4_loudestHour_57 : decode cX4_loudestHour 57 = .ok (.iload_n 1, 1) := by decide +kernel
theorem dX4_loudestHour_58 : decode cX4_loudestHour 58 = .ok (.ifCond .ne 5, 3) := by decide +kernel
theorem dX4_loudestHour_61 : decode cX4_loudestHour 61 = .ok (.iload_n 2, 1) := by decide +kernel
theorem dX4_loudestHour_62 : decode cX4_loudestHour 62 = .ok (.ireturn, 1) := by decide +kernel
theorem dX4_loudestHour_63 : decode cX4_loudestHour 63 = .ok (.iload_n 1, 1) := by decide +kernel
theorem dX4_loudestHour_64 : decode cX4_loudestHour 64 = .ok (.iconst 1, 1) := by decide +kernel
theorem dX4_loudestHour_65 : decode cX4_loudestHour 65 = .ok (.if_icmp .ne 7, 3) := by decide +kernel
theorem dX4_loudestHour_68 : decode cX4_loudestHour 68 = .ok (.iload_n 3, 1) := by decide +kernel
theorem dX4_loudestHour_69 : decode cX4_loudestHour 69 = .ok (.goto 5, 3) := by decide +kernel
theorem dX4_loudestHour_72 : decode cX4_loudestHour 72 = .ok (.iload 4, 2) := by decide +kernel
theorem dX4_loudestHour_74 : decode cX4_loudestHour 74 = .ok (.ireturn, 1) := by decide +kernel
theorem dX4_longestQuiet_0 : decode cX4_longestQuiet 0 = .ok (.iconst 0, 1) := by decide +kernel
theorem dX4_longestQuiet_1 : decode cX4_longestQuiet 1 = .ok (.istore_n 2, 1) := by decide +kernel
theorem dX4_longestQuiet_2 : decode cX4_longestQuiet 2 = .ok (.iload_n 2, 1) := by decide +kernel
theorem dX4_longestQuiet_3 : decode cX4_longestQuiet 3 = .ok (.aload_n 0, 1) := by decide +kernel
theorem dX4_longestQuiet_4 : decode cX4_longestQuiet 4 = .ok (.getfield 38, 3) := by decide +kernel
theorem dX4_longestQuiet_7 : decode cX4_longestQuiet 7 = .ok (.if_icmp .ge 17, 3) := by decide +kernel
theorem dX4_longestQuiet_10 : decode cX4_longestQuiet 10 = .ok (.aload_n 0, 1) := by decide +kernel
theorem dX4_longestQuiet_11 : decode cX4_longestQuiet 11 = .ok (.iload_n 2, 1) := by decide +kernel
theorem dX4_longestQuiet_12 : decode cX4_longestQuiet 12 = .ok (.invokevirtual 99, 3) := by decide +kernel
theorem dX4_longestQuiet_15 : decode cX4_longestQuiet 15 = .ok (.ifCond .ne 9, 3) := by decide +kernel
theorem dX4_longestQuiet_18 : decode cX4_longestQuiet 18 = .ok (.iinc 2 1, 3) := by decide +kernel
theorem dX4_longestQuiet_21 : decode cX4_longestQuiet 21 = .ok (.goto (-19), 3) := by decide +kernel
theorem dX4_longestQuiet_24 : decode cX4_longestQuiet 24 = .ok (.iload_n 2, 1) := by decide +kernel
theorem dX4_longestQuiet_25 : decode cX4_longestQuiet 25 = .ok (.aload_n 0, 1) := by decide +kernel
theorem dX4_longestQuiet_26 : decode cX4_longestQuiet 26 = .ok (.getfield 38, 3) := by decide +kernel
theorem dX4_longestQuiet_29 : decode cX4_longestQuiet 29 = .ok (.if_icmp .lt 16, 3) := by decide +kernel
theorem dX4_longestQuiet_32 : decode cX4_longestQuiet 32 = .ok (.iload_n 1, 1) := by decide +kernel
theorem dX4_longestQuiet_33 : decode cX4_longestQuiet 33 = .ok (.ifCond .ne 10, 3) := by decide +kernel
theorem dX4_longestQuiet_36 : decode cX4_longestQuiet 36 = .ok (.aload_n 0, 1) := by decide +kernel
theorem dX4_longestQuiet_37 : decode cX4_longestQuiet 37 = .ok (.getfield 38, 3) := by decide +kernel
theorem dX4_longestQuiet_40 : decode cX4_longestQuiet 40 = .ok (.goto 4, 3) := by decide +kernel
theorem dX4_longestQuiet_43 : decode cX4_longestQuiet 43 = .ok (.iconst 0, 1) := by decide +kernel
theorem dX4_longestQuiet_44 : decode cX4_longestQuiet 44 = .ok (.ireturn, 1) := by decide +kernel
theorem dX4_longestQuiet_45 : decode cX4_longestQuiet 45 = .ok (.iconst 0, 1) := by decide +kernel
theorem dX4_longestQuiet_46 : decode cX4_longestQuiet 46 = .ok (.istore_n 3, 1) := by decide +kernel
theorem dX4_longestQuiet_47 : decode cX4_longestQuiet 47 = .ok (.iconst (-1), 1) := by decide +kernel
theorem dX4_longestQuiet_48 : decode cX4_longestQuiet 48 = .ok (.istore 4, 2) := by decide +kernel
theorem dX4_longestQuiet_50 : decode cX4_longestQuiet 50 = .ok (.iconst 0, 1) := by decide +kernel
theorem dX4_longestQuiet_51 : decode cX4_longestQuiet 51 = .ok (.istore 5, 2) := by decide +kernel
theorem dX4_longestQuiet_53 : decode cX4_longestQuiet 53 = .ok (.iload_n 2, 1) := by decide +kernel
theorem dX4_longestQuiet_54 : decode cX4_longestQuiet 54 = .ok (.iconst 1, 1) := by decide +kernel
theorem dX4_longestQuiet_55 : decode cX4_longestQuiet 55 = .ok (.iadd, 1) := by decide +kernel
theorem dX4_longestQuiet_56 : decode cX4_longestQuiet 56 = .ok (.istore 6, 2) := by decide +kernel
theorem dX4_longestQuiet_58 : decode cX4_longestQuiet 58 = .ok (.iload 6, 2) := by decide +kernel
theorem dX4_longestQuiet_60 : decode cX4_longestQuiet 60 = .ok (.iload_n 2, 1) := by decide +kernel
theorem dX4_longestQuiet_61 : decode cX4_longestQuiet 61 = .ok (.aload_n 0, 1) := by decide +kernel
theorem dX4_longestQuiet_62 : decode cX4_longestQuiet 62 = .ok (.getfield 38, 3) := by decide +kernel
theorem dX4_longestQuiet_65 : decode cX4_longestQuiet 65 = .ok (.iadd, 1) := by decide +kernel
theorem dX4_longestQuiet_66 : decode cX4_longestQuiet 66 = .ok (.if_icmp .ge 97, 3) := by decide +kernel
theorem dX4_longestQuiet_69 : decode cX4_longestQuiet 69 = .ok (.aload_n 0, 1) := by decide +kernel
theorem dX4_longestQuiet_70 : decode cX4_longestQuiet 70 = .ok (.iload 6, 2) := by decide +kernel
theorem dX4_longestQuiet_72 : decode cX4_longestQuiet 72 = .ok (.invokevirtual 99, 3) := by decide +kernel
theorem dX4_longestQuiet_75 : decode cX4_longestQuiet 75 = .ok (.ifCond .ne 10, 3) := by decide +kernel
theorem dX4_longestQuiet_78 : decode cX4_longestQuiet 78 = .ok (.iload 5, 2) := by decide +kernel
theorem dX4_longestQuiet_80 : decode cX4_longestQuiet 80 = .ok (.iconst 1, 1) := by decide +kernel
theorem dX4_longestQuiet_81 : decode cX4_longestQuiet 81 = .ok (.iadd, 1) := by decide +kernel
theorem dX4_longestQuiet_82 : decode cX4_longestQuiet 82 = .ok (.goto 4, 3) := by decide +kernel
theorem dX4_longestQuiet_85 : decode cX4_longestQuiet 85 = .ok (.iconst 0, 1) := by decide +kernel
theorem dX4_longestQuiet_86 : decode cX4_longestQuiet 86 = .ok (.istore 5, 2) := by decide +kernel
theorem dX4_longestQuiet_88 : decode cX4_longestQuiet 88 = .ok (.iload 6, 2) := by decide +kernel
theorem dX4_longestQuiet_90 : decode cX4_longestQuiet 90 = .ok (.iload 5, 2) := by decide +kernel
theorem dX4_longestQuiet_92 : decode cX4_longestQuiet 92 = .ok (.isub, 1) := by decide +kernel
theorem dX4_longestQuiet_93 : decode cX4_longestQuiet 93 = .ok (.iconst 1, 1) := by decide +kernel
theorem dX4_longestQuiet_94 : decode cX4_longestQuiet 94 = .ok (.iadd, 1) := by decide +kernel
theorem dX4_longestQuiet_95 : decode cX4_longestQuiet 95 = .ok (.aload_n 0, 1) := by decide +kernel
theorem dX4_longestQuiet_96 : decode cX4_longestQuiet 96 = .ok (.getfield 38, 3) := by decide +kernel
theorem dX4_longestQuiet_99 : decode cX4_longestQuiet 99 = .ok (.if_icmp .ge 13, 3) := by decide +kernel
theorem dX4_longestQuiet_102 : decode cX4_longestQuiet 102 = .ok (.iload 6, 2) := by decide +kernel
theorem dX4_longestQuiet_104 : decode cX4_longestQuiet 104 = .ok (.iload 5, 2) := by decide +kernel
theorem dX4_longestQuiet_106 : decode cX4_longestQuiet 106 = .ok (.isub, 1) := by decide +kernel
theorem dX4_longestQuiet_107 : decode cX4_longestQuiet 107 = .ok (.iconst 1, 1) := by decide +kernel
theorem dX4_longestQuiet_108 : decode cX4_longestQuiet 108 = .ok (.iadd, 1) := by decide +kernel
theorem dX4_longestQuiet_109 : decode cX4_longestQuiet 109 = .ok (.goto 15, 3) := by decide +kernel
theorem dX4_longestQuiet_112 : decode cX4_longestQuiet 112 = .ok (.iload 6, 2) := by decide +kernel
theorem dX4_longestQuiet_114 : decode cX4_longestQuiet 114 = .ok (.iload 5, 2) := by decide +kernel
theorem dX4_longestQuiet_116 : decode cX4_longestQuiet 116 = .ok (.isub, 1) := by decide +kernel
theorem dX4_longestQuiet_117 : decode cX4_longestQuiet 117 = .ok (.iconst 1, 1) := by decide +kernel
theorem dX4_longestQuiet_118 : decode cX4_longestQuiet 118 = .ok (.iadd, 1) := by decide +kernel
theorem dX4_longestQuiet_119 : decode cX4_longestQuiet 119 = .ok (.aload_n 0, 1) := by decide +kernel
theorem dX4_longestQuiet_120 : decode cX4_longestQuiet 120 = .ok (.getfield 38, 3) := by decide +kernel
theorem dX4_longestQuiet_123 : decode cX4_longestQuiet 123 = .ok (.isub, 1) := by decide +kernel
theorem dX4_longestQuiet_124 : decode cX4_longestQuiet 124 = .ok (.istore 7, 2) := by decide +kernel
theorem dX4_longestQuiet_126 : decode cX4_longestQuiet 126 = .ok (.iload 5, 2) := by decide +kernel
theorem dX4_longestQuiet_128 : decode cX4_longestQuiet 128 = .ok (.iload_n 3, 1) := by decide +kernel
theorem dX4_longestQuiet_129 : decode cX4_longestQuiet 129 = .ok (.if_icmp .gt 21, 3) := by decide +kernel
theorem dX4_longestQuiet_132 : decode cX4_longestQuiet 132 = .ok (.iload 5, 2) := by decide +kernel
theorem dX4_longestQuiet_134 : decode cX4_longestQuiet 134 = .ok (.ifCond .le 23, 3) := by decide +kernel
theorem dX4_longestQuiet_137 : decode cX4_longestQuiet 137 = .ok (.iload 5, 2) := by decide +kernel
theorem dX4_longestQuiet_139 : decode cX4_longestQuiet 139 = .ok (.iload_n 3, 1) := by decide +kernel
theorem dX4_longestQuiet_140 : decode cX4_longestQuiet 140 = .ok (.if_icmp .ne 17, 3) := by decide +kernel
theorem dX4_longestQuiet_143 : decode cX4_longestQuiet 143 = .ok (.iload 7, 2) := by decide +kernel
theorem dX4_longestQuiet_145 : decode cX4_longestQuiet 145 = .ok (.iload 4, 2) := by decide +kernel
theorem dX4_longestQuiet_147 : decode cX4_longestQuiet 147 = .ok (.if_icmp .ge 10, 3) := by decide +kernel
theorem dX4_longestQuiet_150 : decode cX4_longestQuiet 150 = .ok (.iload 5, 2) := by decide +kernel
theorem dX4_longestQuiet_152 : decode cX4_longestQuiet 152 = .ok (.istore_n 3, 1) := by decide +kernel
theorem dX4_longestQuiet_153 : decode cX4_longestQuiet 153 = .ok (.iload 7, 2) := by decide +kernel
theorem dX4_longestQuiet_155 : decode cX4_longestQuiet 155 = .ok (.istore 4, 2) := by decide +kernel
theorem dX4_longestQuiet_157 : decode cX4_longestQuiet 157 = .ok (.iinc 6 1, 3) := by decide +kernel
theorem dX4_longestQuiet_160 : decode cX4_longestQuiet 160 = .ok (.goto (-102), 3) := by decide +kernel
theorem dX4_longestQuiet_163 : decode cX4_longestQuiet 163 = .ok (.iload_n 1, 1) := by decide +kernel
theorem dX4_longestQuiet_164 : decode cX4_longestQuiet 164 = .ok (.ifCond .ne 7, 3) := by decide +kernel
theorem dX4_longestQuiet_167 : decode cX4_longestQuiet 167 = .ok (.iload_n 3, 1) := by decide +kernel
theorem dX4_longestQuiet_168 : decode cX4_longestQuiet 168 = .ok (.goto 5, 3) := by decide +kernel
theorem dX4_longestQuiet_171 : decode cX4_longestQuiet 171 = .ok (.iload 4, 2) := by decide +kernel
theorem dX4_longestQuiet_173 : decode cX4_longestQuiet 173 = .ok (.ireturn, 1) := by decide +kernel
theorem dX4_bestShift_0 : decode cX4_bestShift 0 = .ok (.aload_n 1, 1) := by decide +kernel
theorem dX4_bestShift_1 : decode cX4_bestShift 1 = .ok (.iload_n 2, 1) := by decide +kernel
theorem dX4_bestShift_2 : decode cX4_bestShift 2 = .ok (.invokevirtual 105, 3) := by decide +kernel
theorem dX4_bestShift_5 : decode cX4_bestShift 5 = .ok (.ifCond .eq 12, 3) := by decide +kernel
theorem dX4_bestShift_8 : decode cX4_bestShift 8 = .ok (.aload_n 1, 1) := by decide +kernel
theorem dX4_bestShift_9 : decode cX4_bestShift 9 = .ok (.getfield 92, 3) := by decide +kernel
theorem dX4_bestShift_12 : decode cX4_bestShift 12 = .ok (.iload_n 2, 1) := by decide +kernel
theorem dX4_bestShift_13 : decode cX4_bestShift 13 = .ok (.iaload, 1) := by decide +kernel
theorem dX4_bestShift_14 : decode cX4_bestShift 14 = .ok (.goto 4, 3) := by decide +kernel
theorem dX4_bestShift_17 : decode cX4_bestShift 17 = .ok (.iconst 0, 1) := by decide +kernel
theorem dX4_bestShift_18 : decode cX4_bestShift 18 = .ok (.istore 5, 2) := by decide +kernel
theorem dX4_bestShift_20 : decode cX4_bestShift 20 = .ok (.iload 5, 2) := by decide +kernel
theorem dX4_bestShift_22 : decode cX4_bestShift 22 = .ok (.iconst 1, 1) := by decide +kernel
theorem dX4_bestShift_23 : decode cX4_bestShift 23 = .ok (.if_icmp .lt 10, 3) := by decide +kernel
theorem dX4_bestShift_26 : decode cX4_bestShift 26 = .ok (.iload 5, 2) := by decide +kernel
theorem dX4_bestShift_28 : decode cX4_bestShift 28 = .ok (.bipush 12, 2) := by decide +kernel
theorem dX4_bestShift_30 : decode cX4_bestShift 30 = .ok (.if_icmp .le 5, 3) := by decide +kernel
theorem dX4_bestShift_33 : decode cX4_bestShift 33 = .ok (.iconst (-1), 1) := by decide +kernel
theorem dX4_bestShift_34 : decode cX4_bestShift 34 = .ok (.ireturn, 1) := by decide +kernel
theorem dX4_bestShift_35 : decode cX4_bestShift 35 = .ok (.aload_n 0, 1) := by decide +kernel
theorem dX4_bestShift_36 : decode cX4_bestShift 36 = .ok (.aload_n 1, 1) := by decide +kernel
theorem dX4_bestShift_37 : decode cX4_bestShift 37 = .ok (.getfield 89, 3) := by decide +kernel
theorem dX4_bestShift_40 : decode cX4_bestShift 40 = .ok (.iload_n 2, 1) := by decide +kernel
theorem dX4_bestShift_41 : decode cX4_bestShift 41 = .ok (.iaload, 1) := by decide +kernel
theorem dX4_bestShift_42 : decode cX4_bestShift 42 = .ok (.iload 5, 2) := by decide +kernel
theorem dX4_bestShift_44 : decode cX4_bestShift 44 = .ok (.bipush 63, 2) := by decide +kernel
theorem dX4_bestShift_46 : decode cX4_bestShift 46 = .ok (.iconst 1, 1) := by decide +kernel
theorem dX4_bestShift_47 : decode cX4_bestShift 47 = .ok (.iload_n 2, 1) := by decide +kernel
theorem dX4_bestShift_48 : decode cX4_bestShift 48 = .ok (.ishl, 1) := by decide +kernel
theorem dX4_bestShift_49 : decode cX4_bestShift 49 = .ok (.isub, 1) := by decide +kernel
theorem dX4_bestShift_50 : decode cX4_bestShift 50 = .ok (.invokevirtual 108, 3) := by decide +kernel
theorem dX4_bestShift_53 : decode cX4_bestShift 53 = .ok (.iconst (-1), 1) := by decide +kernel
theorem dX4_bestShift_54 : decode cX4_bestShift 54 = .ok (.istore 6, 2) := by decide +kernel
theorem dX4_bestShift_56 : decode cX4_bestShift 56 = .ok (.iconst 0, 1) := by decide +kernel
theorem dX4_bestShift_57 : decode cX4_bestShift 57 = .ok (.istore 7, 2) := by decide +kernel
theorem dX4_bestShift_59 : decode cX4_bestShift 59 = .ok (.iconst 0, 1) := by decide +kernel
theorem dX4_bestShift_60 : decode cX4_bestShift 60 = .ok (.istore 8, 2) := by decide +kernel
theorem dX4_bestShift_62 : decode cX4_bestShift 62 = .ok (.iload 8, 2) := by decide +kernel
theorem dX4_bestShift_64 : decode cX4_bestShift 64 = .ok (.iload 5, 2) := by decide +kernel
theorem dX4_bestShift_66 : decode cX4_bestShift 66 = .ok (.if_icmp .ge 99, 3) := by decide +kernel
theorem dX4_bestShift_69 : decode cX4_bestShift 69 = .ok (.iconst 0, 1) := by decide +kernel
theorem dX4_bestShift_70 : decode cX4_bestShift 70 = .ok (.istore 9, 2) := by decide +kernel
theorem dX4_bestShift_72 : decode cX4_bestShift 72 = .ok (.iconst 0, 1) := by decide +kernel
theorem dX4_bestShift_73 : decode cX4_bestShift 73 = .ok (.istore 10, 2) := by decide +kernel
theorem dX4_bestShift_75 : decode cX4_bestShift 75 = .ok (.iload 10, 2) := by decide +kernel
theorem dX4_bestShift_77 : decode cX4_bestShift 77 = .ok (.iload 5, 2) := by decide +kernel
theorem dX4_bestShift_79 : decode cX4_bestShift 79 = .ok (.if_icmp .ge 45, 3) := by decide +kernel
theorem dX4_bestShift_82 : decode cX4_bestShift 82 = .ok (.aload_n 1, 1) := by decide +kernel
theorem dX4_bestShift_83 : decode cX4_bestShift 83 = .ok (.iload_n 2, 1) := by decide +kernel
theorem dX4_bestShift_84 : decode cX4_bestShift 84 = .ok (.invokevirtual 67, 3) := by decide +kernel
theorem dX4_bestShift_87 : decode cX4_bestShift 87 = .ok (.ifCond .ne 31, 3) := by decide +kernel
theorem dX4_bestShift_90 : decode cX4_bestShift 90 = .ok (.aload_n 1, 1) := by decide +kernel
theorem dX4_bestShift_91 : decode cX4_bestShift 91 = .ok (.iload_n 2, 1) := by decide +kernel
theorem dX4_bestShift_92 : decode cX4_bestShift 92 = .ok (.iload 10, 2) := by decide +kernel
theorem dX4_bestShift_94 : decode cX4_bestShift 94 = .ok (.iload 8, 2) := by decide +kernel
theorem dX4_bestShift_96 : decode cX4_bestShift 96 = .ok (.iadd, 1) := by decide +kernel
theorem dX4_bestShift_97 : decode cX4_bestShift 97 = .ok (.iload 5, 2) := by decide +kernel
theorem dX4_bestShift_99 : decode cX4_bestShift 99 = .ok (.irem, 1) := by decide +kernel
theorem dX4_bestShift_100 : decode cX4_bestShift 100 = .ok (.invokevirtual 79, 3) := by decide +kernel
theorem dX4_bestShift_103 : decode cX4_bestShift 103 = .ok (.ifCond .eq 15, 3) := by decide +kernel
theorem dX4_bestShift_106 : decode cX4_bestShift 106 = .ok (.iload 9, 2) := by decide +kernel
theorem dX4_bestShift_108 : decode cX4_bestShift 108 = .ok (.aload_n 0, 1) := by decide +kernel
theorem dX4_bestShift_109 : decode cX4_bestShift 109 = .ok (.getfield 21, 3) := by decide +kernel
theorem dX4_bestShift_112 : decode cX4_bestShift 112 = .ok (.iload 10, 2) := by decide +kernel
theorem dX4_bestShift_114 : decode cX4_bestShift 114 = .ok (.iaload, 1) := by decide +kernel
theorem dX4_bestShift_115 : decode cX4_bestShift 115 = .ok (.iadd, 1) := by decide +kernel
theorem dX4_bestShift_116 : decode cX4_bestShift 116 = .ok (.istore 9, 2) := by decide +kernel
theorem dX4_bestShift_118 : decode cX4_bestShift 118 = .ok (.iinc 10 1, 3) := by decide +kernel
theorem dX4_bestShift_121 : decode cX4_bestShift 121 = .ok (.goto (-46), 3) := by decide +kernel
theorem dX4_bestShift_124 : decode cX4_bestShift 124 = .ok (.iload 6, 2) := by decide +kernel
theorem dX4_bestShift_126 : decode cX4_bestShift 126 = .ok (.iconst (-1), 1) := by decide +kernel
theorem dX4_bestShift_127 : decode cX4_bestShift 127 = .ok (.if_icmp .eq 24, 3) := by decide +kernel
theorem dX4_bestShift_130 : decode cX4_bestShift 130 = .ok (.iload_n 3, 1) := by decide +kernel
theorem dX4_bestShift_131 : decode cX4_bestShift 131 = .ok (.ifCond .eq 13, 3) := by decide +kernel
theorem dX4_bestShift_134 : decode cX4_bestShift 134 = .ok (.iload 9, 2) := by decide +kernel
theorem dX4_bestShift_136 : decode cX4_bestShift 136 = .ok (.iload 7, 2) := by decide +kernel
theorem dX4_bestShift_138 : decode cX4_bestShift 138 = .ok (.if_icmp .le 21, 3) := by decide +kernel
theorem dX4_bestShift_141 : decode cX4_bestShift 141 = .ok (.goto 10, 3) := by decide +kernel
theorem dX4_bestShift_144 : decode cX4_bestShift 144 = .ok (.iload 9, 2) := by decide +kernel
theorem dX4_bestShift_146 : decode cX4_bestShift 146 = .ok (.iload 7, 2) := by decide +kernel
theorem dX4_bestShift_148 : decode cX4_bestShift 148 = .ok (.if_icmp .ge 11, 3) := by decide +kernel
theorem dX4_bestShift_151 : decode cX4_bestShift 151 = .ok (.iload 8, 2) := by decide +kernel
theorem dX4_bestShift_153 : decode cX4_bestShift 153 = .ok (.istore 6, 2) := by decide +kernel
theorem dX4_bestShift_155 : decode cX4_bestShift 155 = .ok (.iload 9, 2) := by decide +kernel
theorem dX4_bestShift_157 : decode cX4_bestShift 157 = .ok (.istore 7, 2) := by decide +kernel
theorem dX4_bestShift_159 : decode cX4_bestShift 159 = .ok (.iinc 8 1, 3) := by decide +kernel
theorem dX4_bestShift_162 : decode cX4_bestShift 162 = .ok (.goto (-100), 3) := by decide +kernel
theorem dX4_bestShift_165 : decode cX4_bestShift 165 = .ok (.iload 4, 2) := by decide +kernel
theorem dX4_bestShift_167 : decode cX4_bestShift 167 = .ok (.ifCond .ne 8, 3) := by decide +kernel
theorem dX4_bestShift_170 : decode cX4_bestShift 170 = .ok (.iload 6, 2) := by decide +kernel
theorem dX4_bestShift_172 : decode cX4_bestShift 172 = .ok (.goto 5, 3) := by decide +kernel
theorem dX4_bestShift_175 : decode cX4_bestShift 175 = .ok (.iload 7, 2) := by decide +kernel
theorem dX4_bestShift_177 : decode cX4_bestShift 177 = .ok (.ireturn, 1) := by decide +kernel
theorem dX4_setMeetings_0 : decode cX4_setMeetings 0 = .ok (.aload_n 0, 1) := by decide +kernel
theorem dX4_setMeetings_1 : decode cX4_setMeetings 1 = .ok (.getfield 21, 3) := by decide +kernel
theorem dX4_setMeetings_4 : decode cX4_setMeetings 4 = .ok (.bipush 12, 2) := by decide +kernel
theorem dX4_setMeetings_6 : decode cX4_setMeetings 6 = .ok (.invokestatic 60, 3) := by decide +kernel
theorem dX4_setMeetings_9 : decode cX4_setMeetings 9 = .ok (.iconst 0, 1) := by decide +kernel
theorem dX4_setMeetings_10 : decode cX4_setMeetings 10 = .ok (.istore 4, 2) := by decide +kernel
theorem dX4_setMeetings_12 : decode cX4_setMeetings 12 = .ok (.iload 4, 2) := by decide +kernel
theorem dX4_setMeetings_14 : decode cX4_setMeetings 14 = .ok (.aload_n 0, 1) := by decide +kernel
theorem dX4_setMeetings_15 : decode cX4_setMeetings 15 = .ok (.getfield 38, 3) := by decide +kernel
theorem dX4_setMeetings_18 : decode cX4_setMeetings 18 = .ok (.if_icmp .ge 49, 3) := by decide +kernel
theorem dX4_setMeetings_21 : decode cX4_setMeetings 21 = .ok (.aload_n 0, 1) := by decide +kernel
theorem dX4_setMeetings_22 : decode cX4_setMeetings 22 = .ok (.iload 4, 2) := by decide +kernel
theorem dX4_setMeetings_24 : decode cX4_setMeetings 24 = .ok (.invokevirtual 99, 3) := by decide +kernel
theorem dX4_setMeetings_27 : decode cX4_setMeetings 27 = .ok (.iload_n 3, 1) := by decide +kernel
theorem dX4_setMeetings_28 : decode cX4_setMeetings 28 = .ok (.iand, 1) := by decide +kernel
theorem dX4_setMeetings_29 : decode cX4_setMeetings 29 = .ok (.ifCond .eq 32, 3) := by decide +kernel
theorem dX4_setMeetings_32 : decode cX4_setMeetings 32 = .ok (.iload_n 2, 1) := by decide +kernel
theorem dX4_setMeetings_33 : decode cX4_setMeetings 33 = .ok (.ifCond .le 28, 3) := by decide +kernel
theorem dX4_setMeetings_36 : decode cX4_setMeetings 36 = .ok (.iload_n 2, 1) := by decide +kernel
theorem dX4_setMeetings_37 : decode cX4_setMeetings 37 = .ok (.bipush 12, 2) := by decide +kernel
theorem dX4_setMeetings_39 : decode cX4_setMeetings 39 = .ok (.if_icmp .gt 22, 3) := by decide +kernel
theorem dX4_setMeetings_42 : decode cX4_setMeetings 42 = .ok (.iload_n 1, 1) := by decide +kernel
theorem dX4_setMeetings_43 : decode cX4_setMeetings 43 = .ok (.ifCond .lt 18, 3) := by decide +kernel
theorem dX4_setMeetings_46 : decode cX4_setMeetings 46 = .ok (.aload_n 0, 1) := by decide +kernel
theorem dX4_setMeetings_47 : decode cX4_setMeetings 47 = .ok (.getfield 21, 3) := by decide +kernel
theorem dX4_setMeetings_50 : decode cX4_setMeetings 50 = .ok (.iload_n 1, 1) := by decide +kernel
theorem dX4_setMeetings_51 : decode cX4_setMeetings 51 = .ok (.iload 4, 2) := by decide +kernel
theorem dX4_setMeetings_53 : decode cX4_setMeetings 53 = .ok (.iadd, 1) := by decide +kernel
theorem dX4_setMeetings_54 : decode cX4_setMeetings 54 = .ok (.iload_n 2, 1) := by decide +kernel
theorem dX4_setMeetings_55 : decode cX4_setMeetings 55 = .ok (.irem, 1) := by decide +kernel
theorem dX4_setMeetings_56 : decode cX4_setMeetings 56 = .ok (.dup2, 1) := by decide +kernel
theorem dX4_setMeetings_57 : decode cX4_setMeetings 57 = .ok (.iaload, 1) := by decide +kernel
theorem dX4_setMeetings_58 : decode cX4_setMeetings 58 = .ok (.iconst 1, 1) := by decide +kernel
theorem dX4_setMeetings_59 : decode cX4_setMeetings 59 = .ok (.iadd, 1) := by decide +kernel
theorem dX4_setMeetings_60 : decode cX4_setMeetings 60 = .ok (.iastore, 1) := by decide +kernel
theorem dX4_setMeetings_61 : decode cX4_setMeetings 61 = .ok (.iinc 4 1, 3) := by decide +kernel
theorem dX4_setMeetings_64 : decode cX4_setMeetings 64 = .ok (.goto (-52), 3) := by decide +kernel
theorem dX4_setMeetings_67 : decode cX4_setMeetings 67 = .ok (.return_, 1) := by decide +kernel
theorem dX4_neverTogether_0 : decode cX4_neverTogether 0 = .ok (.iconst 0, 1) := by decide +kernel
theorem dX4_neverTogether_1 : decode cX4_neverTogether 1 = .ok (.istore_n 2, 1) := by decide +kernel
theorem dX4_neverTogether_2 : decode cX4_neverTogether 2 = .ok (.iload_n 2, 1) := by decide +kernel
theorem dX4_neverTogether_3 : decode cX4_neverTogether 3 = .ok (.bipush 64, 2) := by decide +kernel
theorem dX4_neverTogether_5 : decode cX4_neverTogether 5 = .ok (.if_icmp .ge 16, 3) := by decide +kernel
theorem dX4_neverTogether_8 : decode cX4_neverTogether 8 = .ok (.aload_n 0, 1) := by decide +kernel
theorem dX4_neverTogether_9 : decode cX4_neverTogether 9 = .ok (.getfield 27, 3) := by decide +kernel
theorem dX4_neverTogether_12 : decode cX4_neverTogether 12 = .ok (.iload_n 2, 1) := by decide +kernel
theorem dX4_neverTogether_13 : decode cX4_neverTogether 13 = .ok (.iconst 0, 1) := by decide +kernel
theorem dX4_neverTogether_14 : decode cX4_neverTogether 14 = .ok (.bastore, 1) := by decide +kernel
theorem dX4_neverTogether_15 : decode cX4_neverTogether 15 = .ok (.iinc 2 1, 3) := by decide +kernel
theorem dX4_neverTogether_18 : decode cX4_neverTogether 18 = .ok (.goto (-16), 3) := by decide +kernel
theorem dX4_neverTogether_21 : decode cX4_neverTogether 21 = .ok (.iconst 0, 1) := by decide +kernel
theorem dX4_neverTogether_22 : decode cX4_neverTogether 22 = .ok (.istore_n 2, 1) := by decide +kernel
theorem dX4_neverTogether_23 : decode cX4_neverTogether 23 = .ok (.iload_n 2, 1) := by decide +kernel
theorem dX4_neverTogether_24 : decode cX4_neverTogether 24 = .ok (.aload_n 0, 1) := by decide +kernel
theorem dX4_neverTogether_25 : decode cX4_neverTogether 25 = .ok (.getfield 38, 3) := by decide +kernel
theorem dX4_neverTogether_28 : decode cX4_neverTogether 28 = .ok (.if_icmp .ge 20, 3) := by decide +kernel
theorem dX4_neverTogether_31 : decode cX4_neverTogether 31 = .ok (.aload_n 0, 1) := by decide +kernel
theorem dX4_neverTogether_32 : decode cX4_neverTogether 32 = .ok (.getfield 27, 3) := by decide +kernel
theorem dX4_neverTogether_35 : decode cX4_neverTogether 35 = .ok (.aload_n 0, 1) := by decide +kernel
theorem dX4_neverTogether_36 : decode cX4_neverTogether 36 = .ok (.iload_n 2, 1) := by decide +kernel
theorem dX4_neverTogether_37 : decode cX4_neverTogether 37 = .ok (.invokevirtual 99, 3) := by decide +kernel
theorem dX4_neverTogether_40 : decode cX4_neverTogether 40 = .ok (.iconst 1, 1) := by decide +kernel
theorem dX4_neverTogether_41 : decode cX4_neverTogether 41 = .ok (.bastore, 1) := by decide +kernel
theorem dX4_neverTogether_42 : decode cX4_neverTogether 42 = .ok (.iinc 2 1, 3) := by decide +kernel
theorem dX4_neverTogether_45 : decode cX4_neverTogether 45 = .ok (.goto (-22), 3) := by decide +kernel
theorem dX4_neverTogether_48 : decode cX4_neverTogether 48 = .ok (.iconst 0, 1) := by decide +kernel
theorem dX4_neverTogether_49 : decode cX4_neverTogether 49 = .ok (.istore_n 2, 1) := by decide +kernel
theorem dX4_neverTogether_50 : decode cX4_neverTogether 50 = .ok (.iconst 1, 1) := by decide +kernel
theorem dX4_neverTogether_51 : decode cX4_neverTogether 51 = .ok (.istore_n 3, 1) := by decide +kernel
theorem dX4_neverTogether_52 : decode cX4_neverTogether 52 = .ok (.iload_n 3, 1) := by decide +kernel
theorem dX4_neverTogether_53 : decode cX4_neverTogether 53 = .ok (.iconst 1, 1) := by decide +kernel
theorem dX4_neverTogether_54 : decode cX4_neverTogether 54 = .ok (.iload_n 1, 1) := by decide +kernel
theorem dX4_neverTogether_55 : decode cX4_neverTogether 55 = .ok (.ishl, 1) := by decide +kernel
theorem dX4_neverTogether_56 : decode cX4_neverTogether 56 = .ok (.if_icmp .ge 40, 3) := by decide +kernel
theorem dX4_neverTogether_59 : decode cX4_neverTogether 59 = .ok (.iload_n 3, 1) := by decide +kernel
theorem dX4_neverTogether_60 : decode cX4_neverTogether 60 = .ok (.bipush 64, 2) := by decide +kernel
theorem dX4_neverTogether_62 : decode cX4_neverTogether 62 = .ok (.if_icmp .ge 34, 3) := by decide +kernel
theorem dX4_neverTogether_65 : decode cX4_neverTogether 65 = .ok (.iload_n 2, 1) := by decide +kernel
theorem dX4_neverTogether_66 : decode cX4_neverTogether 66 = .ok (.ifCond .eq 14, 3) := by decide +kernel
theorem dX4_neverTogether_69 : decode cX4_neverTogether 69 = .ok (.iload_n 3, 1) := by decide +kernel
theorem dX4_neverTogether_70 : decode cX4_neverTogether 70 = .ok (.invokestatic 112, 3) := by decide +kernel
theorem dX4_neverTogether_73 : decode cX4_neverTogether 73 = .ok (.iload_n 2, 1) := by decide +kernel
theorem dX4_neverTogether_74 : decode cX4_neverTogether 74 = .ok (.invokestatic 112, 3) := by decide +kernel
theorem dX4_neverTogether_77 : decode cX4_neverTogether 77 = .ok (.if_icmp .ge 13, 3) := by decide +kernel
theorem dX4_neverTogether_80 : decode cX4_neverTogether 80 = .ok (.aload_n 0, 1) := by decide +kernel
theorem dX4_neverTogether_81 : decode cX4_neverTogether 81 = .ok (.iload_n 3, 1) := by decide +kernel
theorem dX4_neverTogether_82 : decode cX4_neverTogether 82 = .ok (.invokevirtual 117, 3) := by decide +kernel
theorem dX4_neverTogether_85 : decode cX4_neverTogether 85 = .ok (.ifCond .ne 5, 3) := by decide +kernel
theorem dX4_neverTogether_88 : decode cX4_neverTogether 88 = .ok (.iload_n 3, 1) := by decide +kernel
theorem dX4_neverTogether_89 : decode cX4_neverTogether 89 = .ok (.istore_n 2, 1) := by decide +kernel
theorem dX4_neverTogether_90 : decode cX4_neverTogether 90 = .ok (.iinc 3 1, 3) := by decide +kernel
theorem dX4_neverTogether_93 : decode cX4_neverTogether 93 = .ok (.goto (-41), 3) := by decide +kernel
theorem dX4_neverTogether_96 : decode cX4_neverTogether 96 = .ok (.iload_n 2, 1) := by decide +kernel
theorem dX4_neverTogether_97 : decode cX4_neverTogether 97 = .ok (.ireturn, 1) := by decide +kernel
theorem dX4_isTogether_0 : decode cX4_isTogether 0 = .ok (.iconst 0, 1) := by decide +kernel
theorem dX4_isTogether_1 : decode cX4_isTogether 1 = .ok (.istore_n 2, 1) := by decide +kernel
theorem dX4_isTogether_2 : decode cX4_isTogether 2 = .ok (.iload_n 2, 1) := by decide +kernel
theorem dX4_isTogether_3 : decode cX4_isTogether 3 = .ok (.bipush 64, 2) := by decide +kernel
theorem dX4_isTogether_5 : decode cX4_isTogether 5 = .ok (.if_icmp .ge 27, 3) := by decide +kernel
theorem dX4_isTogether_8 : decode cX4_isTogether 8 = .ok (.aload_n 0, 1) := by decide +kernel
theorem dX4_isTogether_9 : decode cX4_isTogether 9 = .ok (.getfield 27, 3) := by decide +kernel
theorem dX4_isTogether_12 : decode cX4_isTogether 12 = .ok (.iload_n 2, 1) := by decide +kernel
theorem dX4_isTogether_13 : decode cX4_isTogether 13 = .ok (.baload, 1) := by decide +kernel
theorem dX4_isTogether_14 : decode cX4_isTogether 14 = .ok (.ifCond .eq 12, 3) := by decide +kernel
theorem dX4_isTogether_17 : decode cX4_isTogether 17 = .ok (.iload_n 2, 1) := by decide +kernel
theorem dX4_isTogether_18 : decode cX4_isTogether 18 = .ok (.iload_n 1, 1) := by decide +kernel
theorem dX4_isTogether_19 : decode cX4_isTogether 19 = .ok (.iand, 1) := by decide +kernel
theorem dX4_isTogether_20 : decode cX4_isTogether 20 = .ok (.iload_n 1, 1) := by decide +kernel
theorem dX4_isTogether_21 : decode cX4_isTogether 21 = .ok (.if_icmp .ne 5, 3) := by decide +kernel
theorem dX4_isTogether_24 : decode cX4_isTogether 24 = .ok (.iconst 1, 1) := by decide +kernel
theorem dX4_isTogether_25 : decode cX4_isTogether 25 = .ok (.ireturn, 1) := by decide +kernel
theorem dX4_isTogether_26 : decode cX4_isTogether 26 = .ok (.iinc 2 1, 3) := by decide +kernel
theorem dX4_isTogether_29 : decode cX4_isTogether 29 = .ok (.goto (-27), 3) := by decide +kernel
theorem dX4_isTogether_32 : decode cX4_isTogether 32 = .ok (.iconst 0, 1) := by decide +kernel
theorem dX4_isTogether_33 : decode cX4_isTogether 33 = .ok (.ireturn, 1) := by decide +kernel
theorem dX4_fewestPins_0 : decode cX4_fewestPins 0 = .ok (.aload_n 0, 1) := by decide +kernel
theorem dX4_fewestPins_1 : decode cX4_fewestPins 1 = .ok (.aload_n 1, 1) := by decide +kernel
theorem dX4_fewestPins_2 : decode cX4_fewestPins 2 = .ok (.iload_n 2, 1) := by decide +kernel
theorem dX4_fewestPins_3 : decode cX4_fewestPins 3 = .ok (.invokevirtual 120, 3) := by decide +kernel
theorem dX4_fewestPins_6 : decode cX4_fewestPins 6 = .ok (.bipush 7, 2) := by decide +kernel
theorem dX4_fewestPins_8 : decode cX4_fewestPins 8 = .ok (.istore 4, 2) := by decide +kernel
theorem dX4_fewestPins_10 : decode cX4_fewestPins 10 = .ok (.iconst (-1), 1) := by decide +kernel
theorem dX4_fewestPins_11 : decode cX4_fewestPins 11 = .ok (.istore 5, 2) := by decide +kernel
theorem dX4_fewestPins_13 : decode cX4_fewestPins 13 = .ok (.iconst 0, 1) := by decide +kernel
theorem dX4_fewestPins_14 : decode cX4_fewestPins 14 = .ok (.istore 6, 2) := by decide +kernel
theorem dX4_fewestPins_16 : decode cX4_fewestPins 16 = .ok (.iload 6, 2) := by decide +kernel
theorem dX4_fewestPins_18 : decode cX4_fewestPins 18 = .ok (.aload_n 0, 1) := by decide +kernel
theorem dX4_fewestPins_19 : decode cX4_fewestPins 19 = .ok (.getfield 38, 3) := by decide +kernel
theorem dX4_fewestPins_22 : decode cX4_fewestPins 22 = .ok (.if_icmp .ge 59, 3) := by decide +kernel
theorem dX4_fewestPins_25 : decode cX4_fewestPins 25 = .ok (.iload 4, 2) := by decide +kernel
theorem dX4_fewestPins_27 : decode cX4_fewestPins 27 = .ok (.ifCond .le 54, 3) := by decide +kernel
theorem dX4_fewestPins_30 : decode cX4_fewestPins 30 = .ok (.iload_n 2, 1) := by decide +kernel
theorem dX4_fewestPins_31 : decode cX4_fewestPins 31 = .ok (.aload_n 0, 1) := by decide +kernel
theorem dX4_fewestPins_32 : decode cX4_fewestPins 32 = .ok (.iload 6, 2) := by decide +kernel
theorem dX4_fewestPins_34 : decode cX4_fewestPins 34 = .ok (.invokevirtual 99, 3) := by decide +kernel
theorem dX4_fewestPins_37 : decode cX4_fewestPins 37 = .ok (.iconst (-1), 1) := by decide +kernel
theorem dX4_fewestPins_38 : decode cX4_fewestPins 38 = .ok (.ixor, 1) := by decide +kernel
theorem dX4_fewestPins_39 : decode cX4_fewestPins 39 = .ok (.iand, 1) := by decide +kernel
theorem dX4_fewestPins_40 : decode cX4_fewestPins 40 = .ok (.istore 7, 2) := by decide +kernel
theorem dX4_fewestPins_42 : decode cX4_fewestPins 42 = .ok (.iload 7, 2) := by decide +kernel
theorem dX4_fewestPins_44 : decode cX4_fewestPins 44 = .ok (.invokestatic 112, 3) := by decide +kernel
theorem dX4_fewestPins_47 : decode cX4_fewestPins 47 = .ok (.iload 4, 2) := by decide +kernel
theorem dX4_fewestPins_49 : decode cX4_fewestPins 49 = .ok (.if_icmp .ge 26, 3) := by decide +kernel
theorem dX4_fewestPins_52 : decode cX4_fewestPins 52 = .ok (.aload_n 0, 1) := by decide +kernel
theorem dX4_fewestPins_53 : decode cX4_fewestPins 53 = .ok (.aload_n 1, 1) := by decide +kernel
theorem dX4_fewestPins_54 : decode cX4_fewestPins 54 = .ok (.iload 7, 2) := by decide +kernel
theorem dX4_fewestPins_56 : decode cX4_fewestPins 56 = .ok (.iload 6, 2) := by decide +kernel
theorem dX4_fewestPins_58 : decode cX4_fewestPins 58 = .ok (.invokevirtual 124, 3) := by decide +kernel
theorem dX4_fewestPins_61 : decode cX4_fewestPins 61 = .ok (.ifCond .eq 14, 3) := by decide +kernel
theorem dX4_fewestPins_64 : decode cX4_fewestPins 64 = .ok (.iload 7, 2) := by decide +kernel
theorem dX4_fewestPins_66 : decode cX4_fewestPins 66 = .ok (.invokestatic 112, 3) := by decide +kernel
theorem dX4_fewestPins_69 : decode cX4_fewestPins 69 = .ok (.istore 4, 2) := by decide +kernel
theorem dX4_fewestPins_71 : decode cX4_fewestPins 71 = .ok (.iload 6, 2) := by decide +kernel
theorem dX4_fewestPins_73 : decode cX4_fewestPins 73 = .ok (.istore 5, 2) := by decide +kernel
theorem dX4_fewestPins_75 : decode cX4_fewestPins 75 = .ok (.iinc 6 1, 3) := by decide +kernel
theorem dX4_fewestPins_78 : decode cX4_fewestPins 78 = .ok (.goto (-62), 3) := by decide +kernel
theorem dX4_fewestPins_81 : decode cX4_fewestPins 81 = .ok (.iload 5, 2) := by decide +kernel
theorem dX4_fewestPins_83 : decode cX4_fewestPins 83 = .ok (.iconst (-1), 1) := by decide +kernel
theorem dX4_fewestPins_84 : decode cX4_fewestPins 84 = .ok (.if_icmp .ne 5, 3) := by decide +kernel
theorem dX4_fewestPins_87 : decode cX4_fewestPins 87 = .ok (.iconst (-1), 1) := by decide +kernel
theorem dX4_fewestPins_88 : decode cX4_fewestPins 88 = .ok (.ireturn, 1) := by decide +kernel
theorem dX4_fewestPins_89 : decode cX4_fewestPins 89 = .ok (.iload_n 3, 1) := by decide +kernel
theorem dX4_fewestPins_90 : decode cX4_fewestPins 90 = .ok (.ifCond .ne 8, 3) := by decide +kernel
theorem dX4_fewestPins_93 : decode cX4_fewestPins 93 = .ok (.iload 4, 2) := by decide +kernel
theorem dX4_fewestPins_95 : decode cX4_fewestPins 95 = .ok (.goto 5, 3) := by decide +kernel
theorem dX4_fewestPins_98 : decode cX4_fewestPins 98 = .ok (.iload 5, 2) := by decide +kernel
theorem dX4_fewestPins_100 : decode cX4_fewestPins 100 = .ok (.ireturn, 1) := by decide +kernel
theorem dX4_setBarred_0 : decode cX4_setBarred 0 = .ok (.aload_n 1, 1) := by decide +kernel
theorem dX4_setBarred_1 : decode cX4_setBarred 1 = .ok (.aload_n 1, 1) := by decide +kernel
theorem dX4_setBarred_2 : decode cX4_setBarred 2 = .ok (.getfield 128, 3) := by decide +kernel
theorem dX4_setBarred_5 : decode cX4_setBarred 5 = .ok (.invokevirtual 131, 3) := by decide +kernel
theorem dX4_setBarred_8 : decode cX4_setBarred 8 = .ok (.astore_n 3, 1) := by decide +kernel
theorem dX4_setBarred_9 : decode cX4_setBarred 9 = .ok (.iconst 0, 1) := by decide +kernel
theorem dX4_setBarred_10 : decode cX4_setBarred 10 = .ok (.istore 4, 2) := by decide +kernel
theorem dX4_setBarred_12 : decode cX4_setBarred 12 = .ok (.iload 4, 2) := by decide +kernel
theorem dX4_setBarred_14 : decode cX4_setBarred 14 = .ok (.bipush 6, 2) := by decide +kernel
theorem dX4_setBarred_16 : decode cX4_setBarred 16 = .ok (.if_icmp .ge 84, 3) := by decide +kernel
theorem dX4_setBarred_19 : decode cX4_setBarred 19 = .ok (.aload_n 0, 1) := by decide +kernel
theorem dX4_setBarred_20 : decode cX4_setBarred 20 = .ok (.getfield 24, 3) := by decide +kernel
theorem dX4_setBarred_23 : decode cX4_setBarred 23 = .ok (.iload 4, 2) := by decide +kernel
theorem dX4_setBarred_25 : decode cX4_setBarred 25 = .ok (.iconst 0, 1) := by decide +kernel
theorem dX4_setBarred_26 : decode cX4_setBarred 26 = .ok (.iastore, 1) := by decide +kernel
theorem dX4_setBarred_27 : decode cX4_setBarred 27 = .ok (.iconst 0, 1) := by decide +kernel
theorem dX4_setBarred_28 : decode cX4_setBarred 28 = .ok (.istore 5, 2) := by decide +kernel
theorem dX4_setBarred_30 : decode cX4_setBarred 30 = .ok (.iload 5, 2) := by decide +kernel
theorem dX4_setBarred_32 : decode cX4_setBarred 32 = .ok (.bipush 12, 2) := by decide +kernel
theorem dX4_setBarred_34 : decode cX4_setBarred 34 = .ok (.if_icmp .ge 60, 3) := by decide +kernel
theorem dX4_setBarred_37 : decode cX4_setBarred 37 = .ok (.iload_n 2, 1) := by decide +kernel
theorem dX4_setBarred_38 : decode cX4_setBarred 38 = .ok (.iload 4, 2) := by decide +kernel
theorem dX4_setBarred_40 : decode cX4_setBarred 40 = .ok (.ishr, 1) := by decide +kernel
theorem dX4_setBarred_41 : decode cX4_setBarred 41 = .ok (.iconst 1, 1) := by decide +kernel
theorem dX4_setBarred_42 : decode cX4_setBarred 42 = .ok (.iand, 1) := by decide +kernel
theorem dX4_setBarred_43 : decode cX4_setBarred 43 = .ok (.ifCond .eq 45, 3) := by decide +kernel
theorem dX4_setBarred_46 : decode cX4_setBarred 46 = .ok (.aload_n 1, 1) := by decide +kernel
theorem dX4_setBarred_47 : decode cX4_setBarred 47 = .ok (.iload 4, 2) := by decide +kernel
theorem dX4_setBarred_49 : decode cX4_setBarred 49 = .ok (.iload 5, 2) := by decide +kernel
theorem dX4_setBarred_51 : decode cX4_setBarred 51 = .ok (.invokevirtual 135, 3) := by decide +kernel
theorem dX4_setBarred_54 : decode cX4_setBarred 54 = .ok (.ifCond .eq 34, 3) := by decide +kernel
theorem dX4_setBarred_57 : decode cX4_setBarred 57 = .ok (.aload_n 0, 1) := by decide +kernel
theorem dX4_setBarred_58 : decode cX4_setBarred 58 = .ok (.getfield 41, 3) := by decide +kernel
theorem dX4_setBarred_61 : decode cX4_setBarred 61 = .ok (.aload_n 1, 1) := by decide +kernel
theorem dX4_setBarred_62 : decode cX4_setBarred 62 = .ok (.aload_n 3, 1) := by decide +kernel
theorem dX4_setBarred_63 : decode cX4_setBarred 63 = .ok (.iconst 2, 1) := by decide +kernel
theorem dX4_setBarred_64 : decode cX4_setBarred 64 = .ok (.iload 4, 2) := by decide +kernel
theorem dX4_setBarred_66 : decode cX4_setBarred 66 = .ok (.iload 5, 2) := by decide +kernel
theorem dX4_setBarred_68 : decode cX4_setBarred 68 = .ok (.invokevirtual 138, 3) := by decide +kernel
theorem dX4_setBarred_71 : decode cX4_setBarred 71 = .ok (.ifCond .eq 17, 3) := by decide +kernel
theorem dX4_setBarred_74 : decode cX4_setBarred 74 = .ok (.aload_n 0, 1) := by decide +kernel
theorem dX4_setBarred_75 : decode cX4_setBarred 75 = .ok (.getfield 24, 3) := by decide +kernel
theorem dX4_setBarred_78 : decode cX4_setBarred 78 = .ok (.iload 4, 2) := by decide +kernel
theorem dX4_setBarred_80 : decode cX4_setBarred 80 = .ok (.dup2, 1) := by decide +kernel
theorem dX4_setBarred_81 : decode cX4_setBarred 81 = .ok (.iaload, 1) := by decide +kernel
theorem dX4_setBarred_82 : decode cX4_setBarred 82 = .ok (.iconst 1, 1) := by decide +kernel
theorem dX4_setBarred_83 : decode cX4_setBarred 83 = .ok (.iload 5, 2) := by decide +kernel
theorem dX4_setBarred_85 : decode cX4_setBarred 85 = .ok (.ishl, 1) := by decide +kernel
theorem dX4_setBarred_86 : decode cX4_setBarred 86 = .ok (.ior, 1) := by decide +kernel
theorem dX4_setBarred_87 : decode cX4_setBarred 87 = .ok (.iastore, 1) := by decide +kernel
theorem dX4_setBarred_88 : decode cX4_setBarred 88 = .ok (.iinc 5 1, 3) := by decide +kernel
theorem dX4_setBarred_91 : decode cX4_setBarred 91 = .ok (.goto (-61), 3) := by decide +kernel
theorem dX4_setBarred_94 : decode cX4_setBarred 94 = .ok (.iinc 4 1, 3) := by decide +kernel
theorem dX4_setBarred_97 : decode cX4_setBarred 97 = .ok (.goto (-85), 3) := by decide +kernel
theorem dX4_setBarred_100 : decode cX4_setBarred 100 = .ok (.return_, 1) := by decide +kernel
theorem dX4_canAdd_0 : decode cX4_canAdd 0 = .ok (.iconst 0, 1) := by decide +kernel
theorem dX4_canAdd_1 : decode cX4_canAdd 1 = .ok (.istore 4, 2) := by decide +kernel
theorem dX4_canAdd_3 : decode cX4_canAdd 3 = .ok (.iload 4, 2) := by decide +kernel
theorem dX4_canAdd_5 : decode cX4_canAdd 5 = .ok (.bipush 6, 2) := by decide +kernel
theorem dX4_canAdd_7 : decode cX4_canAdd 7 = .ok (.if_icmp .ge 40, 3) := by decide +kernel
theorem dX4_canAdd_10 : decode cX4_canAdd 10 = .ok (.iload_n 2, 1) := by decide +kernel
theorem dX4_canAdd_11 : decode cX4_canAdd 11 = .ok (.iload 4, 2) := by decide +kernel
theorem dX4_canAdd_13 : decode cX4_canAdd 13 = .ok (.ishr, 1) := by decide +kernel
theorem dX4_canAdd_14 : decode cX4_canAdd 14 = .ok (.iconst 1, 1) := by decide +kernel
theorem dX4_canAdd_15 : decode cX4_canAdd 15 = .ok (.iand, 1) := by decide +kernel
theorem dX4_canAdd_16 : decode cX4_canAdd 16 = .ok (.ifCond .eq 25, 3) := by decide +kernel
theorem dX4_canAdd_19 : decode cX4_canAdd 19 = .ok (.aload_n 0, 1) := by decide +kernel
theorem dX4_canAdd_20 : decode cX4_canAdd 20 = .ok (.getfield 24, 3) := by decide +kernel
theorem dX4_canAdd_23 : decode cX4_canAdd 23 = .ok (.iload 4, 2) := by decide +kernel
theorem dX4_canAdd_25 : decode cX4_canAdd 25 = .ok (.iaload, 1) := by decide +kernel
theorem dX4_canAdd_26 : decode cX4_canAdd 26 = .ok (.aload_n 1, 1) := by decide +kernel
theorem dX4_canAdd_27 : decode cX4_canAdd 27 = .ok (.iload 4, 2) := by decide +kernel
theorem dX4_canAdd_29 : decode cX4_canAdd 29 = .ok (.iload_n 3, 1) := by decide +kernel
theorem dX4_canAdd_30 : decode cX4_canAdd 30 = .ok (.invokevirtual 142, 3) := by decide +kernel
theorem dX4_canAdd_33 : decode cX4_canAdd 33 = .ok (.ishr, 1) := by decide +kernel
theorem dX4_canAdd_34 : decode cX4_canAdd 34 = .ok (.iconst 1, 1) := by decide +kernel
theorem dX4_canAdd_35 : decode cX4_canAdd 35 = .ok (.iand, 1) := by decide +kernel
theorem dX4_canAdd_36 : decode cX4_canAdd 36 = .ok (.ifCond .eq 5, 3) := by decide +kernel
theorem dX4_canAdd_39 : decode cX4_canAdd 39 = .ok (.iconst 0, 1) := by decide +kernel
theorem dX4_canAdd_40 : decode cX4_canAdd 40 = .ok (.ireturn, 1) := by decide +kernel
theorem dX4_canAdd_41 : decode cX4_canAdd 41 = .ok (.iinc 4 1, 3) := by decide +kernel
theorem dX4_canAdd_44 : decode cX4_canAdd 44 = .ok (.goto (-41), 3) := by decide +kernel
theorem dX4_canAdd_47 : decode cX4_canAdd 47 = .ok (.iconst 1, 1) := by decide +kernel
theorem dX4_canAdd_48 : decode cX4_canAdd 48 = .ok (.ireturn, 1) := by decide +kernel
theorem dX4_tuneHours_0 : decode cX4_tuneHours 0 = .ok (.aload_n 0, 1) := by decide +kernel
theorem dX4_tuneHours_1 : decode cX4_tuneHours 1 = .ok (.getfield 38, 3) := by decide +kernel
theorem dX4_tuneHours_4 : decode cX4_tuneHours 4 = .ok (.istore_n 1, 1) := by decide +kernel
theorem dX4_tuneHours_5 : decode cX4_tuneHours 5 = .ok (.iconst 0, 1) := by decide +kernel
theorem dX4_tuneHours_6 : decode cX4_tuneHours 6 = .ok (.istore_n 2, 1) := by decide +kernel
theorem dX4_tuneHours_7 : decode cX4_tuneHours 7 = .ok (.iload_n 2, 1) := by decide +kernel
theorem dX4_tuneHours_8 : decode cX4_tuneHours 8 = .ok (.getstatic 145, 3) := by decide +kernel
theorem dX4_tuneHours_11 : decode cX4_tuneHours 11 = .ok (.arraylength, 1) := by decide +kernel
theorem dX4_tuneHours_12 : decode cX4_tuneHours 12 = .ok (.if_icmp .ge 44, 3) := by decide +kernel
theorem dX4_tuneHours_15 : decode cX4_tuneHours 15 = .ok (.iconst 0, 1) := by decide +kernel
theorem dX4_tuneHours_16 : decode cX4_tuneHours 16 = .ok (.istore_n 3, 1) := by decide +kernel
theorem dX4_tuneHours_17 : decode cX4_tuneHours 17 = .ok (.iload_n 3, 1) := by decide +kernel
theorem dX4_tuneHours_18 : decode cX4_tuneHours 18 = .ok (.bipush 12, 2) := by decide +kernel
theorem dX4_tuneHours_20 : decode cX4_tuneHours 20 = .ok (.if_icmp .ge 30, 3) := by decide +kernel
theorem dX4_tuneHours_23 : decode cX4_tuneHours 23 = .ok (.aload_n 0, 1) := by decide +kernel
theorem dX4_tuneHours_24 : decode cX4_tuneHours 24 = .ok (.iload_n 1, 1) := by decide +kernel
theorem dX4_tuneHours_25 : decode cX4_tuneHours 25 = .ok (.getstatic 145, 3) := by decide +kernel
theorem dX4_tuneHours_28 : decode cX4_tuneHours 28 = .ok (.iload_n 2, 1) := by decide +kernel
theorem dX4_tuneHours_29 : decode cX4_tuneHours 29 = .ok (.iaload, 1) := by decide +kernel
theorem dX4_tuneHours_30 : decode cX4_tuneHours 30 = .ok (.invokevirtual 148, 3) := by decide +kernel
theorem dX4_tuneHours_33 : decode cX4_tuneHours 33 = .ok (.ifCond .eq 17, 3) := by decide +kernel
theorem dX4_tuneHours_36 : decode cX4_tuneHours 36 = .ok (.iload_n 1, 1) := by decide +kernel
theorem dX4_tuneHours_37 : decode cX4_tuneHours 37 = .ok (.getstatic 145, 3) := by decide +kernel
theorem dX4_tuneHours_40 : decode cX4_tuneHours 40 = .ok (.iload_n 2, 1) := by decide +kernel
theorem dX4_tuneHours_41 : decode cX4_tuneHours 41 = .ok (.iaload, 1) := by decide +kernel
theorem dX4_tuneHours_42 : decode cX4_tuneHours 42 = .ok (.idiv, 1) := by decide +kernel
theorem dX4_tuneHours_43 : decode cX4_tuneHours 43 = .ok (.istore_n 1, 1) := by decide +kernel
theorem dX4_tuneHours_44 : decode cX4_tuneHours 44 = .ok (.iinc 3 1, 3) := by decide +kernel
theorem dX4_tuneHours_47 : decode cX4_tuneHours 47 = .ok (.goto (-30), 3) := by decide +kernel
theorem dX4_tuneHours_50 : decode cX4_tuneHours 50 = .ok (.iinc 2 1, 3) := by decide +kernel
theorem dX4_tuneHours_53 : decode cX4_tuneHours 53 = .ok (.goto (-46), 3) := by decide +kernel
theorem dX4_tuneHours_56 : decode cX4_tuneHours 56 = .ok (.iload_n 1, 1) := by decide +kernel
theorem dX4_tuneHours_57 : decode cX4_tuneHours 57 = .ok (.ireturn, 1) := by decide +kernel
theorem dX4_comesAgain_0 : decode cX4_comesAgain 0 = .ok (.iload_n 2, 1) := by decide +kernel
theorem dX4_comesAgain_1 : decode cX4_comesAgain 1 = .ok (.iconst 1, 1) := by decide +kernel
theorem dX4_comesAgain_2 : decode cX4_comesAgain 2 = .ok (.if_icmp .lt 9, 3) := by decide +kernel
theorem dX4_comesAgain_5 : decode cX4_comesAgain 5 = .ok (.iload_n 1, 1) := by decide +kernel
theorem dX4_comesAgain_6 : decode cX4_comesAgain 6 = .ok (.iload_n 2, 1) := by decide +kernel
theorem dX4_comesAgain_7 : decode cX4_comesAgain 7 = .ok (.irem, 1) := by decide +kernel
theorem dX4_comesAgain_8 : decode cX4_comesAgain 8 = .ok (.ifCond .eq 5, 3) := by decide +kernel
theorem dX4_comesAgain_11 : decode cX4_comesAgain 11 = .ok (.iconst 0, 1) := by decide +kernel
theorem dX4_comesAgain_12 : decode cX4_comesAgain 12 = .ok (.ireturn, 1) := by decide +kernel
theorem dX4_comesAgain_13 : decode cX4_comesAgain 13 = .ok (.iconst 0, 1) := by decide +kernel
theorem dX4_comesAgain_14 : decode cX4_comesAgain 14 = .ok (.istore_n 3, 1) := by decide +kernel
theorem dX4_comesAgain_15 : decode cX4_comesAgain 15 = .ok (.iload_n 3, 1) := by decide +kernel
theorem dX4_comesAgain_16 : decode cX4_comesAgain 16 = .ok (.iload_n 1, 1) := by decide +kernel
theorem dX4_comesAgain_17 : decode cX4_comesAgain 17 = .ok (.if_icmp .ge 28, 3) := by decide +kernel
theorem dX4_comesAgain_20 : decode cX4_comesAgain 20 = .ok (.aload_n 0, 1) := by decide +kernel
theorem dX4_comesAgain_21 : decode cX4_comesAgain 21 = .ok (.iload_n 3, 1) := by decide +kernel
theorem dX4_comesAgain_22 : decode cX4_comesAgain 22 = .ok (.invokevirtual 102, 3) := by decide +kernel
theorem dX4_comesAgain_25 : decode cX4_comesAgain 25 = .ok (.aload_n 0, 1) := by decide +kernel
theorem dX4_comesAgain_26 : decode cX4_comesAgain 26 = .ok (.iload_n 3, 1) := by decide +kernel
theorem dX4_comesAgain_27 : decode cX4_comesAgain 27 = .ok (.iload_n 1, 1) := by decide +kernel
theorem dX4_comesAgain_28 : decode cX4_comesAgain 28 = .ok (.iload_n 2, 1) := by decide +kernel
theorem dX4_comesAgain_29 : decode cX4_comesAgain 29 = .ok (.idiv, 1) := by decide +kernel
theorem dX4_comesAgain_30 : decode cX4_comesAgain 30 = .ok (.iadd, 1) := by decide +kernel
theorem dX4_comesAgain_31 : decode cX4_comesAgain 31 = .ok (.invokevirtual 102, 3) := by decide +kernel
theorem dX4_comesAgain_34 : decode cX4_comesAgain 34 = .ok (.if_icmp .eq 5, 3) := by decide +kernel
theorem dX4_comesAgain_37 : decode cX4_comesAgain 37 = .ok (.iconst 0, 1) := by decide +kernel
theorem dX4_comesAgain_38 : decode cX4_comesAgain 38 = .ok (.ireturn, 1) := by decide +kernel
theorem dX4_comesAgain_39 : decode cX4_comesAgain 39 = .ok (.iinc 3 1, 3) := by decide +kernel
theorem dX4_comesAgain_42 : decode cX4_comesAgain 42 = .ok (.goto (-27), 3) := by decide +kernel
theorem dX4_comesAgain_45 : decode cX4_comesAgain 45 = .ok (.iconst 1, 1) := by decide +kernel
theorem dX4_comesAgain_46 : decode cX4_comesAgain 46 = .ok (.ireturn, 1) := by decide +kernel
