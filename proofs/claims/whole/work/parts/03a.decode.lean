theorem dX0_init_0 : decode cX0_init 0 = .ok (.aload_n 0, 1) := by decide +kernel
theorem dX0_init_1 : decode cX0_init 1 = .ok (.invokespecial 3, 3) := by decide +kernel
theorem dX0_init_4 : decode cX0_init 4 = .ok (.aload_n 0, 1) := by decide +kernel
theorem dX0_init_5 : decode cX0_init 5 = .ok (.new 9, 3) := by decide +kernel
theorem dX0_init_8 : decode cX0_init 8 = .ok (.dup, 1) := by decide +kernel
theorem dX0_init_9 : decode cX0_init 9 = .ok (.invokespecial 11, 3) := by decide +kernel
theorem dX0_init_12 : decode cX0_init 12 = .ok (.putfield 12, 3) := by decide +kernel
theorem dX0_init_15 : decode cX0_init 15 = .ok (.aload_n 0, 1) := by decide +kernel
theorem dX0_init_16 : decode cX0_init 16 = .ok (.bipush 7, 2) := by decide +kernel
theorem dX0_init_18 : decode cX0_init 18 = .ok (.newarray .int, 2) := by decide +kernel
theorem dX0_init_20 : decode cX0_init 20 = .ok (.putfield 18, 3) := by decide +kernel
theorem dX0_init_23 : decode cX0_init 23 = .ok (.return_, 1) := by decide +kernel
theorem dX0_sound_0 : decode cX0_sound 0 = .ok (.aload_n 2, 1) := by decide +kernel
theorem dX0_sound_1 : decode cX0_sound 1 = .ok (.ifnull 11, 3) := by decide +kernel
theorem dX0_sound_4 : decode cX0_sound 4 = .ok (.aload_n 1, 1) := by decide +kernel
theorem dX0_sound_5 : decode cX0_sound 5 = .ok (.iload_n 3, 1) := by decide +kernel
theorem dX0_sound_6 : decode cX0_sound 6 = .ok (.invokevirtual 22, 3) := by decide +kernel
theorem dX0_sound_9 : decode cX0_sound 9 = .ok (.ifCond .ne 5, 3) := by decide +kernel
theorem dX0_sound_12 : decode cX0_sound 12 = .ok (.iconst 1, 1) := by decide +kernel
theorem dX0_sound_13 : decode cX0_sound 13 = .ok (.ireturn, 1) := by decide +kernel
theorem dX0_sound_14 : decode cX0_sound 14 = .ok (.aload_n 0, 1) := by decide +kernel
theorem dX0_sound_15 : decode cX0_sound 15 = .ok (.aload_n 1, 1) := by decide +kernel
theorem dX0_sound_16 : decode cX0_sound 16 = .ok (.iload_n 3, 1) := by decide +kernel
theorem dX0_sound_17 : decode cX0_sound 17 = .ok (.iload 4, 2) := by decide +kernel
theorem dX0_sound_19 : decode cX0_sound 19 = .ok (.invokevirtual 28, 3) := by decide +kernel
theorem dX0_sound_22 : decode cX0_sound 22 = .ok (.aload_n 2, 1) := by decide +kernel
theorem dX0_sound_23 : decode cX0_sound 23 = .ok (.getfield 32, 3) := by decide +kernel
theorem dX0_sound_26 : decode cX0_sound 26 = .ok (.iconst 1, 1) := by decide +kernel
theorem dX0_sound_27 : decode cX0_sound 27 = .ok (.isub, 1) := by decide +kernel
theorem dX0_sound_28 : decode cX0_sound 28 = .ok (.istore 5, 2) := by decide +kernel
theorem dX0_sound_30 : decode cX0_sound 30 = .ok (.iload 5, 2) := by decide +kernel
theorem dX0_sound_32 : decode cX0_sound 32 = .ok (.ifCond .lt 98, 3) := by decide +kernel
theorem dX0_sound_35 : decode cX0_sound 35 = .ok (.iload 5, 2) := by decide +kernel
theorem dX0_sound_37 : decode cX0_sound 37 = .ok (.aload_n 2, 1) := by decide +kernel
theorem dX0_sound_38 : decode cX0_sound 38 = .ok (.getfield 38, 3) := by decide +kernel
theorem dX0_sound_41 : decode cX0_sound 41 = .ok (.arraylength, 1) := by decide +kernel
theorem dX0_sound_42 : decode cX0_sound 42 = .ok (.if_icmp .ge 88, 3) := by decide +kernel
theorem dX0_sound_45 : decode cX0_sound 45 = .ok (.aload_n 2, 1) := by decide +kernel
theorem dX0_sound_46 : decode cX0_sound 46 = .ok (.getfield 38, 3) := by decide +kernel
theorem dX0_sound_49 : decode cX0_sound 49 = .ok (.iload 5, 2) := by decide +kernel
theorem dX0_sound_51 : decode cX0_sound 51 = .ok (.iaload, 1) := by decide +kernel
theorem dX0_sound_52 : decode cX0_sound 52 = .ok (.ifCond .ne 72, 3) := by decide +kernel
theorem dX0_sound_55 : decode cX0_sound 55 = .ok (.aload_n 0, 1) := by decide +kernel
theorem dX0_sound_56 : decode cX0_sound 56 = .ok (.getfield 12, 3) := by decide +kernel
theorem dX0_sound_59 : decode cX0_sound 59 = .ok (.aload_n 2, 1) := by decide +kernel
theorem dX0_sound_60 : decode cX0_sound 60 = .ok (.getfield 41, 3) := by decide +kernel
theorem dX0_sound_63 : decode cX0_sound 63 = .ok (.aload_n 2, 1) := by decide +kernel
theorem dX0_sound_64 : decode cX0_sound 64 = .ok (.getfield 44, 3) := by decide +kernel
theorem dX0_sound_67 : decode cX0_sound 67 = .ok (.iload 5, 2) := by decide +kernel
theorem dX0_sound_69 : decode cX0_sound 69 = .ok (.iaload, 1) := by decide +kernel
theorem dX0_sound_70 : decode cX0_sound 70 = .ok (.aload_n 0, 1) := by decide +kernel
theorem dX0_sound_71 : decode cX0_sound 71 = .ok (.getfield 18, 3) := by decide +kernel
theorem dX0_sound_74 : decode cX0_sound 74 = .ok (.invokevirtual 47, 3) := by decide +kernel
theorem dX0_sound_77 : decode cX0_sound 77 = .ok (.iconst 1, 1) := by decide +kernel
theorem dX0_sound_78 : decode cX0_sound 78 = .ok (.if_icmp .ne 46, 3) := by decide +kernel
theorem dX0_sound_81 : decode cX0_sound 81 = .ok (.aload_n 0, 1) := by decide +kernel
theorem dX0_sound_82 : decode cX0_sound 82 = .ok (.getfield 12, 3) := by decide +kernel
theorem dX0_sound_85 : decode cX0_sound 85 = .ok (.aload_n 2, 1) := by decide +kernel
theorem dX0_sound_86 : decode cX0_sound 86 = .ok (.getfield 41, 3) := by decide +kernel
theorem dX0_sound_89 : decode cX0_sound 89 = .ok (.aload_n 2, 1) := by decide +kernel
theorem dX0_sound_90 : decode cX0_sound 90 = .ok (.getfield 51, 3) := by decide +kernel
theorem dX0_sound_93 : decode cX0_sound 93 = .ok (.iload 5, 2) := by decide +kernel
theorem dX0_sound_95 : decode cX0_sound 95 = .ok (.iaload, 1) := by decide +kernel
theorem dX0_sound_96 : decode cX0_sound 96 = .ok (.aload_n 0, 1) := by decide +kernel
theorem dX0_sound_97 : decode cX0_sound 97 = .ok (.getfield 18, 3) := by decide +kernel
theorem dX0_sound_100 : decode cX0_sound 100 = .ok (.invokevirtual 47, 3) := by decide +kernel
theorem dX0_sound_103 : decode cX0_sound 103 = .ok (.istore 6, 2) := by decide +kernel
theorem dX0_sound_105 : decode cX0_sound 105 = .ok (.iload 6, 2) := by decide +kernel
theorem dX0_sound_107 : decode cX0_sound 107 = .ok (.ldc 54, 2) := by decide +kernel
theorem dX0_sound_109 : decode cX0_sound 109 = .ok (.if_icmp .eq 15, 3) := by decide +kernel
theorem dX0_sound_112 : decode cX0_sound 112 = .ok (.iconst 0, 1) := by decide +kernel
theorem dX0_sound_113 : decode cX0_sound 113 = .ok (.bipush 9, 2) := by decide +kernel
theorem dX0_sound_115 : decode cX0_sound 115 = .ok (.iload 6, 2) := by decide +kernel
theorem dX0_sound_117 : decode cX0_sound 117 = .ok (.invokestatic 55, 3) := by decide +kernel
theorem dX0_sound_120 : decode cX0_sound 120 = .ok (.invokestatic 61, 3) := by decide +kernel
theorem dX0_sound_123 : decode cX0_sound 123 = .ok (.ireturn, 1) := by decide +kernel
theorem dX0_sound_124 : decode cX0_sound 124 = .ok (.iinc 5 (-1), 3) := by decide +kernel
theorem dX0_sound_127 : decode cX0_sound 127 = .ok (.goto (-97), 3) := by decide +kernel
theorem dX0_sound_130 : decode cX0_sound 130 = .ok (.iconst 1, 1) := by decide +kernel
theorem dX0_sound_131 : decode cX0_sound 131 = .ok (.ireturn, 1) := by decide +kernel
theorem dX0_holds_0 : decode cX0_holds 0 = .ok (.aload_n 2, 1) := by decide +kernel
theorem dX0_holds_1 : decode cX0_holds 1 = .ok (.ifnull 12, 3) := by decide +kernel
theorem dX0_holds_4 : decode cX0_holds 4 = .ok (.aload_n 1, 1) := by decide +kernel
theorem dX0_holds_5 : decode cX0_holds 5 = .ok (.iload 4, 2) := by decide +kernel
theorem dX0_holds_7 : decode cX0_holds 7 = .ok (.invokevirtual 22, 3) := by decide +kernel
theorem dX0_holds_10 : decode cX0_holds 10 = .ok (.ifCond .ne 5, 3) := by decide +kernel
theorem dX0_holds_13 : decode cX0_holds 13 = .ok (.iconst 0, 1) := by decide +kernel
theorem dX0_holds_14 : decode cX0_holds 14 = .ok (.ireturn, 1) := by decide +kernel
theorem dX0_holds_15 : decode cX0_holds 15 = .ok (.aload_n 0, 1) := by decide +kernel
theorem dX0_holds_16 : decode cX0_holds 16 = .ok (.aload_n 1, 1) := by decide +kernel
theorem dX0_holds_17 : decode cX0_holds 17 = .ok (.iload 4, 2) := by decide +kernel
theorem dX0_holds_19 : decode cX0_holds 19 = .ok (.iload 5, 2) := by decide +kernel
theorem dX0_holds_21 : decode cX0_holds 21 = .ok (.invokevirtual 28, 3) := by decide +kernel
theorem dX0_holds_24 : decode cX0_holds 24 = .ok (.iconst 0, 1) := by decide +kernel
theorem dX0_holds_25 : decode cX0_holds 25 = .ok (.istore 6, 2) := by decide +kernel
theorem dX0_holds_27 : decode cX0_holds 27 = .ok (.iload 6, 2) := by decide +kernel
theorem dX0_holds_29 : decode cX0_holds 29 = .ok (.aload_n 2, 1) := by decide +kernel
theorem dX0_holds_30 : decode cX0_holds 30 = .ok (.getfield 32, 3) := by decide +kernel
theorem dX0_holds_33 : decode cX0_holds 33 = .ok (.if_icmp .ge 58, 3) := by decide +kernel
theorem dX0_holds_36 : decode cX0_holds 36 = .ok (.iload 6, 2) := by decide +kernel
theorem dX0_holds_38 : decode cX0_holds 38 = .ok (.aload_n 2, 1) := by decide +kernel
theorem dX0_holds_39 : decode cX0_holds 39 = .ok (.getfield 38, 3) := by decide +kernel
theorem dX0_holds_42 : decode cX0_holds 42 = .ok (.arraylength, 1) := by decide +kernel
theorem dX0_holds_43 : decode cX0_holds 43 = .ok (.if_icmp .ge 48, 3) := by decide +kernel
theorem dX0_holds_46 : decode cX0_holds 46 = .ok (.aload_n 2, 1) := by decide +kernel
theorem dX0_holds_47 : decode cX0_holds 47 = .ok (.getfield 38, 3) := by decide +kernel
theorem dX0_holds_50 : decode cX0_holds 50 = .ok (.iload 6, 2) := by decide +kernel
theorem dX0_holds_52 : decode cX0_holds 52 = .ok (.iaload, 1) := by decide +kernel
theorem dX0_holds_53 : decode cX0_holds 53 = .ok (.iload_n 3, 1) := by decide +kernel
theorem dX0_holds_54 : decode cX0_holds 54 = .ok (.if_icmp .ne 31, 3) := by decide +kernel
theorem dX0_holds_57 : decode cX0_holds 57 = .ok (.aload_n 0, 1) := by decide +kernel
theorem dX0_holds_58 : decode cX0_holds 58 = .ok (.getfield 12, 3) := by decide +kernel
theorem dX0_holds_61 : decode cX0_holds 61 = .ok (.aload_n 2, 1) := by decide +kernel
theorem dX0_holds_62 : decode cX0_holds 62 = .ok (.getfield 41, 3) := by decide +kernel
theorem dX0_holds_65 : decode cX0_holds 65 = .ok (.aload_n 2, 1) := by decide +kernel
theorem dX0_holds_66 : decode cX0_holds 66 = .ok (.getfield 44, 3) := by decide +kernel
theorem dX0_holds_69 : decode cX0_holds 69 = .ok (.iload 6, 2) := by decide +kernel
theorem dX0_holds_71 : decode cX0_holds 71 = .ok (.iaload, 1) := by decide +kernel
theorem dX0_holds_72 : decode cX0_holds 72 = .ok (.aload_n 0, 1) := by decide +kernel
theorem dX0_holds_73 : decode cX0_holds 73 = .ok (.getfield 18, 3) := by decide +kernel
theorem dX0_holds_76 : decode cX0_holds 76 = .ok (.invokevirtual 47, 3) := by decide +kernel
theorem dX0_holds_79 : decode cX0_holds 79 = .ok (.iconst 1, 1) := by decide +kernel
theorem dX0_holds_80 : decode cX0_holds 80 = .ok (.if_icmp .ne 5, 3) := by decide +kernel
theorem dX0_holds_83 : decode cX0_holds 83 = .ok (.iconst 1, 1) := by decide +kernel
theorem dX0_holds_84 : decode cX0_holds 84 = .ok (.ireturn, 1) := by decide +kernel
theorem dX0_holds_85 : decode cX0_holds 85 = .ok (.iinc 6 1, 3) := by decide +kernel
theorem dX0_holds_88 : decode cX0_holds 88 = .ok (.goto (-61), 3) := by decide +kernel
theorem dX0_holds_91 : decode cX0_holds 91 = .ok (.iconst 0, 1) := by decide +kernel
theorem dX0_holds_92 : decode cX0_holds 92 = .ok (.ireturn, 1) := by decide +kernel
theorem dX0_loudIn_0 : decode cX0_loudIn 0 = .ok (.aload_n 1, 1) := by decide +kernel
theorem dX0_loudIn_1 : decode cX0_loudIn 1 = .ok (.aload_n 1, 1) := by decide +kernel
theorem dX0_loudIn_2 : decode cX0_loudIn 2 = .ok (.getfield 64, 3) := by decide +kernel
theorem dX0_loudIn_5 : decode cX0_loudIn 5 = .ok (.invokevirtual 67, 3) := by decide +kernel
theorem dX0_loudIn_8 : decode cX0_loudIn 8 = .ok (.astore_n 3, 1) := by decide +kernel
theorem dX0_loudIn_9 : decode cX0_loudIn 9 = .ok (.iconst 0, 1) := by decide +kernel
theorem dX0_loudIn_10 : decode cX0_loudIn 10 = .ok (.istore 4, 2) := by decide +kernel
theorem dX0_loudIn_12 : decode cX0_loudIn 12 = .ok (.iconst 0, 1) := by decide +kernel
theorem dX0_loudIn_13 : decode cX0_loudIn 13 = .ok (.istore 5, 2) := by decide +kernel
theorem dX0_loudIn_15 : decode cX0_loudIn 15 = .ok (.iload 5, 2) := by decide +kernel
theorem dX0_loudIn_17 : decode cX0_loudIn 17 = .ok (.aload_n 1, 1) := by decide +kernel
theorem dX0_loudIn_18 : decode cX0_loudIn 18 = .ok (.getfield 71, 3) := by decide +kernel
theorem dX0_loudIn_21 : decode cX0_loudIn 21 = .ok (.if_icmp .ge 39, 3) := by decide +kernel
theorem dX0_loudIn_24 : decode cX0_loudIn 24 = .ok (.aload_n 1, 1) := by decide +kernel
theorem dX0_loudIn_25 : decode cX0_loudIn 25 = .ok (.iload 5, 2) := by decide +kernel
theorem dX0_loudIn_27 : decode cX0_loudIn 27 = .ok (.iload_n 2, 1) := by decide +kernel
theorem dX0_loudIn_28 : decode cX0_loudIn 28 = .ok (.invokevirtual 74, 3) := by decide +kernel
theorem dX0_loudIn_31 : decode cX0_loudIn 31 = .ok (.ifCond .eq 23, 3) := by decide +kernel
theorem dX0_loudIn_34 : decode cX0_loudIn 34 = .ok (.iload 4, 2) := by decide +kernel
theorem dX0_loudIn_36 : decode cX0_loudIn 36 = .ok (.aload_n 0, 1) := by decide +kernel
theorem dX0_loudIn_37 : decode cX0_loudIn 37 = .ok (.aload_n 1, 1) := by decide +kernel
theorem dX0_loudIn_38 : decode cX0_loudIn 38 = .ok (.aload_n 3, 1) := by decide +kernel
theorem dX0_loudIn_39 : decode cX0_loudIn 39 = .ok (.iload 5, 2) := by decide +kernel
theorem dX0_loudIn_41 : decode cX0_loudIn 41 = .ok (.aload_n 1, 1) := by decide +kernel
theorem dX0_loudIn_42 : decode cX0_loudIn 42 = .ok (.iload 5, 2) := by decide +kernel
theorem dX0_loudIn_44 : decode cX0_loudIn 44 = .ok (.iload_n 2, 1) := by decide +kernel
theorem dX0_loudIn_45 : decode cX0_loudIn 45 = .ok (.invokevirtual 78, 3) := by decide +kernel
theorem dX0_loudIn_48 : decode cX0_loudIn 48 = .ok (.invokevirtual 81, 3) := by decide +kernel
theorem dX0_loudIn_51 : decode cX0_loudIn 51 = .ok (.iadd, 1) := by decide +kernel
theorem dX0_loudIn_52 : decode cX0_loudIn 52 = .ok (.istore 4, 2) := by decide +kernel
theorem dX0_loudIn_54 : decode cX0_loudIn 54 = .ok (.iinc 5 1, 3) := by decide +kernel
theorem dX0_loudIn_57 : decode cX0_loudIn 57 = .ok (.goto (-42), 3) := by decide +kernel
theorem dX0_loudIn_60 : decode cX0_loudIn 60 = .ok (.iload 4, 2) := by decide +kernel
theorem dX0_loudIn_62 : decode cX0_loudIn 62 = .ok (.ireturn, 1) := by decide +kernel
theorem dX0_setWords_0 : decode cX0_setWords 0 = .ok (.aload_n 0, 1) := by decide +kernel
theorem dX0_setWords_1 : decode cX0_setWords 1 = .ok (.getfield 18, 3) := by decide +kernel
theorem dX0_setWords_4 : decode cX0_setWords 4 = .ok (.iconst 0, 1) := by decide +kernel
theorem dX0_setWords_5 : decode cX0_setWords 5 = .ok (.iload_n 2, 1) := by decide +kernel
theorem dX0_setWords_6 : decode cX0_setWords 6 = .ok (.iastore, 1) := by decide +kernel
theorem dX0_setWords_7 : decode cX0_setWords 7 = .ok (.aload_n 0, 1) := by decide +kernel
theorem dX0_setWords_8 : decode cX0_setWords 8 = .ok (.getfield 18, 3) := by decide +kernel
theorem dX0_setWords_11 : decode cX0_setWords 11 = .ok (.iconst 1, 1) := by decide +kernel
theorem dX0_setWords_12 : decode cX0_setWords 12 = .ok (.aload_n 1, 1) := by decide +kernel
theorem dX0_setWords_13 : decode cX0_setWords 13 = .ok (.getfield 85, 3) := by decide +kernel
theorem dX0_setWords_16 : decode cX0_setWords 16 = .ok (.iload_n 2, 1) := by decide +kernel
theorem dX0_setWords_17 : decode cX0_setWords 17 = .ok (.iaload, 1) := by decide +kernel
theorem dX0_setWords_18 : decode cX0_setWords 18 = .ok (.iastore, 1) := by decide +kernel
theorem dX0_setWords_19 : decode cX0_setWords 19 = .ok (.aload_n 0, 1) := by decide +kernel
theorem dX0_setWords_20 : decode cX0_setWords 20 = .ok (.getfield 18, 3) := by decide +kernel
theorem dX0_setWords_23 : decode cX0_setWords 23 = .ok (.iconst 2, 1) := by decide +kernel
theorem dX0_setWords_24 : decode cX0_setWords 24 = .ok (.aload_n 1, 1) := by decide +kernel
theorem dX0_setWords_25 : decode cX0_setWords 25 = .ok (.getfield 88, 3) := by decide +kernel
theorem dX0_setWords_28 : decode cX0_setWords 28 = .ok (.iload_n 2, 1) := by decide +kernel
theorem dX0_setWords_29 : decode cX0_setWords 29 = .ok (.iaload, 1) := by decide +kernel
theorem dX0_setWords_30 : decode cX0_setWords 30 = .ok (.iastore, 1) := by decide +kernel
theorem dX0_setWords_31 : decode cX0_setWords 31 = .ok (.aload_n 0, 1) := by decide +kernel
theorem dX0_setWords_32 : decode cX0_setWords 32 = .ok (.getfield 18, 3) := by decide +kernel
theorem dX0_setWords_35 : decode cX0_setWords 35 = .ok (.iconst 3, 1) := by decide +kernel
theorem dX0_setWords_36 : decode cX0_setWords 36 = .ok (.iload_n 3, 1) := by decide +kernel
theorem dX0_setWords_37 : decode cX0_setWords 37 = .ok (.iastore, 1) := by decide +kernel
theorem dX0_setWords_38 : decode cX0_setWords 38 = .ok (.aload_n 0, 1) := by decide +kernel
theorem dX0_setWords_39 : decode cX0_setWords 39 = .ok (.getfield 18, 3) := by decide +kernel
theorem dX0_setWords_42 : decode cX0_setWords 42 = .ok (.iconst 4, 1) := by decide +kernel
theorem dX0_setWords_43 : decode cX0_setWords 43 = .ok (.aload_n 1, 1) := by decide +kernel
theorem dX0_setWords_44 : decode cX0_setWords 44 = .ok (.getfield 89, 3) := by decide +kernel
theorem dX0_setWords_47 : decode cX0_setWords 47 = .ok (.iload_n 2, 1) := by decide +kernel
theorem dX0_setWords_48 : decode cX0_setWords 48 = .ok (.iaload, 1) := by decide +kernel
theorem dX0_setWords_49 : decode cX0_setWords 49 = .ok (.invokestatic 92, 3) := by decide +kernel
theorem dX0_setWords_52 : decode cX0_setWords 52 = .ok (.iastore, 1) := by decide +kernel
theorem dX0_setWords_53 : decode cX0_setWords 53 = .ok (.aload_n 0, 1) := by decide +kernel
theorem dX0_setWords_54 : decode cX0_setWords 54 = .ok (.getfield 18, 3) := by decide +kernel
theorem dX0_setWords_57 : decode cX0_setWords 57 = .ok (.iconst 5, 1) := by decide +kernel
theorem dX0_setWords_58 : decode cX0_setWords 58 = .ok (.aload_n 1, 1) := by decide +kernel
theorem dX0_setWords_59 : decode cX0_setWords 59 = .ok (.getfield 98, 3) := by decide +kernel
theorem dX0_setWords_62 : decode cX0_setWords 62 = .ok (.iconst 0, 1) := by decide +kernel
theorem dX0_setWords_63 : decode cX0_setWords 63 = .ok (.iaload, 1) := by decide +kernel
theorem dX0_setWords_64 : decode cX0_setWords 64 = .ok (.iastore, 1) := by decide +kernel
theorem dX0_setWords_65 : decode cX0_setWords 65 = .ok (.aload_n 0, 1) := by decide +kernel
theorem dX0_setWords_66 : decode cX0_setWords 66 = .ok (.getfield 18, 3) := by decide +kernel
theorem dX0_setWords_69 : decode cX0_setWords 69 = .ok (.bipush 6, 2) := by decide +kernel
theorem dX0_setWords_71 : decode cX0_setWords 71 = .ok (.aload_n 1, 1) := by decide +kernel
theorem dX0_setWords_72 : decode cX0_setWords 72 = .ok (.getfield 98, 3) := by decide +kernel
theorem dX0_setWords_75 : decode cX0_setWords 75 = .ok (.iconst 2, 1) := by decide +kernel
theorem dX0_setWords_76 : decode cX0_setWords 76 = .ok (.iaload, 1) := by decide +kernel
theorem dX0_setWords_77 : decode cX0_setWords 77 = .ok (.iastore, 1) := by decide +kernel
theorem dX0_setWords_78 : decode cX0_setWords 78 = .ok (.return_, 1) := by decide +kernel
theorem dX1_init_0 : decode cX1_init 0 = .ok (.aload_n 0, 1) := by decide +kernel
theorem dX1_init_1 : decode cX1_init 1 = .ok (.invokespecial 3, 3) := by decide +kernel
theorem dX1_init_4 : decode cX1_init 4 = .ok (.aload_n 0, 1) := by decide +kernel
theorem dX1_init_5 : decode cX1_init 5 = .ok (.aload_n 1, 1) := by decide +kernel
theorem dX1_init_6 : decode cX1_init 6 = .ok (.putfield 9, 3) := by decide +kernel
theorem dX1_init_9 : decode cX1_init 9 = .ok (.return_, 1) := by decide +kernel
theorem dX1_change_0 : decode cX1_change 0 = .ok (.aload_n 0, 1) := by decide +kernel
theorem dX1_change_1 : decode cX1_change 1 = .ok (.aload_n 1, 1) := by decide +kernel
theorem dX1_change_2 : decode cX1_change 2 = .ok (.iload_n 3, 1) := by decide +kernel
theorem dX1_change_3 : decode cX1_change 3 = .ok (.iload 4, 2) := by decide +kernel
theorem dX1_change_5 : decode cX1_change 5 = .ok (.iload 5, 2) := by decide +kernel
theorem dX1_change_7 : decode cX1_change 7 = .ok (.invokevirtual 15, 3) := by decide +kernel
theorem dX1_change_10 : decode cX1_change 10 = .ok (.istore 6, 2) := by decide +kernel
theorem dX1_change_12 : decode cX1_change 12 = .ok (.iload 6, 2) := by decide +kernel
theorem dX1_change_14 : decode cX1_change 14 = .ok (.ifCond .eq 6, 3) := by decide +kernel
theorem dX1_change_17 : decode cX1_change 17 = .ok (.iload 6, 2) := by decide +kernel
theorem dX1_change_19 : decode cX1_change 19 = .ok (.ireturn, 1) := by decide +kernel
theorem dX1_change_20 : decode cX1_change 20 = .ok (.aload_n 2, 1) := by decide +kernel
theorem dX1_change_21 : decode cX1_change 21 = .ok (.iload_n 3, 1) := by decide +kernel
theorem dX1_change_22 : decode cX1_change 22 = .ok (.aload_n 1, 1) := by decide +kernel
theorem dX1_change_23 : decode cX1_change 23 = .ok (.invokevirtual 19, 3) := by decide +kernel
theorem dX1_change_26 : decode cX1_change 26 = .ok (.iload_n 3, 1) := by decide +kernel
theorem dX1_change_27 : decode cX1_change 27 = .ok (.iconst 3, 1) := by decide +kernel
theorem dX1_change_28 : decode cX1_change 28 = .ok (.if_icmp .ne 11, 3) := by decide +kernel
theorem dX1_change_31 : decode cX1_change 31 = .ok (.aload_n 0, 1) := by decide +kernel
theorem dX1_change_32 : decode cX1_change 32 = .ok (.aload_n 1, 1) := by decide +kernel
theorem dX1_change_33 : decode cX1_change 33 = .ok (.invokevirtual 25, 3) := by decide +kernel
theorem dX1_change_36 : decode cX1_change 36 = .ok (.goto 13, 3) := by decide +kernel
theorem dX1_change_39 : decode cX1_change 39 = .ok (.aload_n 0, 1) := by decide +kernel
theorem dX1_change_40 : decode cX1_change 40 = .ok (.aload_n 1, 1) := by decide +kernel
theorem dX1_change_41 : decode cX1_change 41 = .ok (.iload_n 3, 1) := by decide +kernel
theorem dX1_change_42 : decode cX1_change 42 = .ok (.iload 4, 2) := by decide +kernel
theorem dX1_change_44 : decode cX1_change 44 = .ok (.iload 5, 2) := by decide +kernel
theorem dX1_change_46 : decode cX1_change 46 = .ok (.invokevirtual 29, 3) := by decide +kernel
theorem dX1_change_49 : decode cX1_change 49 = .ok (.ireturn, 1) := by decide +kernel
theorem dX1_play_0 : decode cX1_play 0 = .ok (.iload_n 2, 1) := by decide +kernel
theorem dX1_play_1 : decode cX1_play 1 = .ok (.iconst 1, 1) := by decide +kernel
theorem dX1_play_2 : decode cX1_play 2 = .ok (.if_icmp .ne 7, 3) := by decide +kernel
theorem dX1_play_5 : decode cX1_play 5 = .ok (.iconst 1, 1) := by decide +kernel
theorem dX1_play_6 : decode cX1_play 6 = .ok (.goto 5, 3) := by decide +kernel
theorem dX1_play_9 : decode cX1_play 9 = .ok (.iload 4, 2) := by decide +kernel
theorem dX1_play_11 : decode cX1_play 11 = .ok (.istore 5, 2) := by decide +kernel
theorem dX1_play_13 : decode cX1_play 13 = .ok (.aload_n 0, 1) := by decide +kernel
theorem dX1_play_14 : decode cX1_play 14 = .ok (.aload_n 1, 1) := by decide +kernel
theorem dX1_play_15 : decode cX1_play 15 = .ok (.iload_n 2, 1) := by decide +kernel
theorem dX1_play_16 : decode cX1_play 16 = .ok (.iload_n 3, 1) := by decide +kernel
theorem dX1_play_17 : decode cX1_play 17 = .ok (.iload 5, 2) := by decide +kernel
theorem dX1_play_19 : decode cX1_play 19 = .ok (.invokevirtual 15, 3) := by decide +kernel
theorem dX1_play_22 : decode cX1_play 22 = .ok (.ifCond .ne 13, 3) := by decide +kernel
theorem dX1_play_25 : decode cX1_play 25 = .ok (.aload_n 0, 1) := by decide +kernel
theorem dX1_play_26 : decode cX1_play 26 = .ok (.aload_n 1, 1) := by decide +kernel
theorem dX1_play_27 : decode cX1_play 27 = .ok (.iload_n 2, 1) := by decide +kernel
theorem dX1_play_28 : decode cX1_play 28 = .ok (.iload_n 3, 1) := by decide +kernel
theorem dX1_play_29 : decode cX1_play 29 = .ok (.iload 5, 2) := by decide +kernel
theorem dX1_play_31 : decode cX1_play 31 = .ok (.invokevirtual 29, 3) := by decide +kernel
theorem dX1_play_34 : decode cX1_play 34 = .ok (.pop, 1) := by decide +kernel
theorem dX1_play_35 : decode cX1_play 35 = .ok (.return_, 1) := by decide +kernel
theorem dX1_refusal_0 : decode cX1_refusal 0 = .ok (.iload_n 2, 1) := by decide +kernel
theorem dX1_refusal_1 : decode cX1_refusal 1 = .ok (.iconst 3, 1) := by decide +kernel
theorem dX1_refusal_2 : decode cX1_refusal 2 = .ok (.if_icmp .ne 22, 3) := by decide +kernel
theorem dX1_refusal_5 : decode cX1_refusal 5 = .ok (.aload_n 1, 1) := by decide +kernel
theorem dX1_refusal_6 : decode cX1_refusal 6 = .ok (.getfield 32, 3) := by decide +kernel
theorem dX1_refusal_9 : decode cX1_refusal 9 = .ok (.iconst 0, 1) := by decide +kernel
theorem dX1_refusal_10 : decode cX1_refusal 10 = .ok (.iaload, 1) := by decide +kernel
theorem dX1_refusal_11 : decode cX1_refusal 11 = .ok (.sipush 999, 3) := by decide +kernel
theorem dX1_refusal_14 : decode cX1_refusal 14 = .ok (.if_icmp .lt 8, 3) := by decide +kernel
theorem dX1_refusal_17 : decode cX1_refusal 17 = .ok (.bipush (-3), 2) := by decide +kernel
theorem dX1_refusal_19 : decode cX1_refusal 19 = .ok (.goto 4, 3) := by decide +kernel
theorem dX1_refusal_22 : decode cX1_refusal 22 = .ok (.iconst 0, 1) := by decide +kernel
theorem dX1_refusal_23 : decode cX1_refusal 23 = .ok (.ireturn, 1) := by decide +kernel
theorem dX1_refusal_24 : decode cX1_refusal 24 = .ok (.iload_n 2, 1) := by decide +kernel
theorem dX1_refusal_25 : decode cX1_refusal 25 = .ok (.ifCond .ne 15, 3) := by decide +kernel
theorem dX1_refusal_28 : decode cX1_refusal 28 = .ok (.iload 4, 2) := by decide +kernel
theorem dX1_refusal_30 : decode cX1_refusal 30 = .ok (.ifCond .lt 28, 3) := by decide +kernel
theorem dX1_refusal_33 : decode cX1_refusal 33 = .ok (.iload 4, 2) := by decide +kernel
theorem dX1_refusal_35 : decode cX1_refusal 35 = .ok (.bipush 12, 2) := by decide +kernel
theorem dX1_refusal_37 : decode cX1_refusal 37 = .ok (.if_icmp .ge 21, 3) := by decide +kernel
theorem dX1_refusal_40 : decode cX1_refusal 40 = .ok (.iload_n 2, 1) := by decide +kernel
theorem dX1_refusal_41 : decode cX1_refusal 41 = .ok (.iconst 1, 1) := by decide +kernel
theorem dX1_refusal_42 : decode cX1_refusal 42 = .ok (.if_icmp .ne 18, 3) := by decide +kernel
theorem dX1_refusal_45 : decode cX1_refusal 45 = .ok (.iload 4, 2) := by decide +kernel
theorem dX1_refusal_47 : decode cX1_refusal 47 = .ok (.iconst 1, 1) := by decide +kernel
theorem dX1_refusal_48 : decode cX1_refusal 48 = .ok (.if_icmp .lt 10, 3) := by decide +kernel
theorem dX1_refusal_51 : decode cX1_refusal 51 = .ok (.iload 4, 2) := by decide +kernel
theorem dX1_refusal_53 : decode cX1_refusal 53 = .ok (.bipush 12, 2) := by decide +kernel
theorem dX1_refusal_55 : decode cX1_refusal 55 = .ok (.if_icmp .lt 5, 3) := by decide +kernel
theorem dX1_refusal_58 : decode cX1_refusal 58 = .ok (.iconst (-1), 1) := by decide +kernel
theorem dX1_refusal_59 : decode cX1_refusal 59 = .ok (.ireturn, 1) := by decide +kernel
theorem dX1_refusal_60 : decode cX1_refusal 60 = .ok (.aload_n 1, 1) := by decide +kernel
theorem dX1_refusal_61 : decode cX1_refusal 61 = .ok (.iload_n 3, 1) := by decide +kernel
theorem dX1_refusal_62 : decode cX1_refusal 62 = .ok (.invokevirtual 38, 3) := by decide +kernel
theorem dX1_refusal_65 : decode cX1_refusal 65 = .ok (.ifCond .ne 6, 3) := by decide +kernel
theorem dX1_refusal_68 : decode cX1_refusal 68 = .ok (.bipush (-2), 2) := by decide +kernel
theorem dX1_refusal_70 : decode cX1_refusal 70 = .ok (.ireturn, 1) := by decide +kernel
theorem dX1_refusal_71 : decode cX1_refusal 71 = .ok (.iload_n 2, 1) := by decide +kernel
theorem dX1_refusal_72 : decode cX1_refusal 72 = .ok (.ifCond .ne 53, 3) := by decide +kernel
theorem dX1_refusal_75 : decode cX1_refusal 75 = .ok (.aload_n 1, 1) := by decide +kernel
theorem dX1_refusal_76 : decode cX1_refusal 76 = .ok (.iload_n 3, 1) := by decide +kernel
theorem dX1_refusal_77 : decode cX1_refusal 77 = .ok (.iload 4, 2) := by decide +kernel
theorem dX1_refusal_79 : decode cX1_refusal 79 = .ok (.invokevirtual 42, 3) := by decide +kernel
theorem dX1_refusal_82 : decode cX1_refusal 82 = .ok (.ifCond .ne 43, 3) := by decide +kernel
theorem dX1_refusal_85 : decode cX1_refusal 85 = .ok (.aload_n 1, 1) := by decide +kernel
theorem dX1_refusal_86 : decode cX1_refusal 86 = .ok (.aload_n 1, 1) := by decide +kernel
theorem dX1_refusal_87 : decode cX1_refusal 87 = .ok (.getfield 46, 3) := by decide +kernel
theorem dX1_refusal_90 : decode cX1_refusal 90 = .ok (.invokevirtual 50, 3) := by decide +kernel
theorem dX1_refusal_93 : decode cX1_refusal 93 = .ok (.astore 5, 2) := by decide +kernel
theorem dX1_refusal_95 : decode cX1_refusal 95 = .ok (.aload_n 1, 1) := by decide +kernel
theorem dX1_refusal_96 : decode cX1_refusal 96 = .ok (.iload_n 3, 1) := by decide +kernel
theorem dX1_refusal_97 : decode cX1_refusal 97 = .ok (.iload 4, 2) := by decide +kernel
theorem dX1_refusal_99 : decode cX1_refusal 99 = .ok (.invokevirtual 54, 3) := by decide +kernel
theorem dX1_refusal_102 : decode cX1_refusal 102 = .ok (.ifCond .eq 20, 3) := by decide +kernel
theorem dX1_refusal_105 : decode cX1_refusal 105 = .ok (.aload_n 0, 1) := by decide +kernel
theorem dX1_refusal_106 : decode cX1_refusal 106 = .ok (.getfield 9, 3) := by decide +kernel
theorem dX1_refusal_109 : decode cX1_refusal 109 = .ok (.aload_n 1, 1) := by decide +kernel
theorem dX1_refusal_110 : decode cX1_refusal 110 = .ok (.aload 5, 2) := by decide +kernel
theorem dX1_refusal_112 : decode cX1_refusal 112 = .ok (.iconst 2, 1) := by decide +kernel
theorem dX1_refusal_113 : decode cX1_refusal 113 = .ok (.iload_n 3, 1) := by decide +kernel
theorem dX1_refusal_114 : decode cX1_refusal 114 = .ok (.iload 4, 2) := by decide +kernel
theorem dX1_refusal_116 : decode cX1_refusal 116 = .ok (.invokevirtual 57, 3) := by decide +kernel
theorem dX1_refusal_119 : decode cX1_refusal 119 = .ok (.ifCond .eq 6, 3) := by decide +kernel
theorem dX1_refusal_122 : decode cX1_refusal 122 = .ok (.bipush (-3), 2) := by decide +kernel
theorem dX1_refusal_124 : decode cX1_refusal 124 = .ok (.ireturn, 1) := by decide +kernel
theorem dX1_refusal_125 : decode cX1_refusal 125 = .ok (.iconst 0, 1) := by decide +kernel
theorem dX1_refusal_126 : decode cX1_refusal 126 = .ok (.ireturn, 1) := by decide +kernel
theorem dX1_turn_0 : decode cX1_turn 0 = .ok (.aload_n 1, 1) := by decide +kernel
theorem dX1_turn_1 : decode cX1_turn 1 = .ok (.iload_n 3, 1) := by decide +kernel
theorem dX1_turn_2 : decode cX1_turn 2 = .ok (.invokevirtual 38, 3) := by decide +kernel
theorem dX1_turn_5 : decode cX1_turn 5 = .ok (.ifCond .eq 13, 3) := by decide +kernel
theorem dX1_turn_8 : decode cX1_turn 8 = .ok (.aload_n 1, 1) := by decide +kernel
theorem dX1_turn_9 : decode cX1_turn 9 = .ok (.getfield 63, 3) := by decide +kernel
theorem dX1_turn_12 : decode cX1_turn 12 = .ok (.iload_n 3, 1) := by decide +kernel
theorem dX1_turn_13 : decode cX1_turn 13 = .ok (.iaload, 1) := by decide +kernel
theorem dX1_turn_14 : decode cX1_turn 14 = .ok (.iconst 1, 1) := by decide +kernel
theorem dX1_turn_15 : decode cX1_turn 15 = .ok (.if_icmp .ge 6, 3) := by decide +kernel
theorem dX1_turn_18 : decode cX1_turn 18 = .ok (.bipush (-2), 2) := by decide +kernel
theorem dX1_turn_20 : decode cX1_turn 20 = .ok (.ireturn, 1) := by decide +kernel
theorem dX1_turn_21 : decode cX1_turn 21 = .ok (.iload_n 2, 1) := by decide +kernel
theorem dX1_turn_22 : decode cX1_turn 22 = .ok (.lookupswitch 84 #[(0, 26), (1, 55)], 26) := by decide +kernel
theorem dX1_turn_48 : decode cX1_turn 48 = .ok (.aload_n 1, 1) := by decide +kernel
theorem dX1_turn_49 : decode cX1_turn 49 = .ok (.getfield 66, 3) := by decide +kernel
theorem dX1_turn_52 : decode cX1_turn 52 = .ok (.iload_n 3, 1) := by decide +kernel
theorem dX1_turn_53 : decode cX1_turn 53 = .ok (.dup2, 1) := by decide +kernel
theorem dX1_turn_54 : decode cX1_turn 54 = .ok (.iaload, 1) := by decide +kernel
theorem dX1_turn_55 : decode cX1_turn 55 = .ok (.iconst 1, 1) := by decide +kernel
theorem dX1_turn_56 : decode cX1_turn 56 = .ok (.iload 4, 2) := by decide +kernel
theorem dX1_turn_58 : decode cX1_turn 58 = .ok (.ishl, 1) := by decide +kernel
theorem dX1_turn_59 : decode cX1_turn 59 = .ok (.ixor, 1) := by decide +kernel
theorem dX1_turn_60 : decode cX1_turn 60 = .ok (.iastore, 1) := by decide +kernel
theorem dX1_turn_61 : decode cX1_turn 61 = .ok (.aload_n 1, 1) := by decide +kernel
theorem dX1_turn_62 : decode cX1_turn 62 = .ok (.iload_n 3, 1) := by decide +kernel
theorem dX1_turn_63 : decode cX1_turn 63 = .ok (.iload 4, 2) := by decide +kernel
theorem dX1_turn_65 : decode cX1_turn 65 = .ok (.invokevirtual 42, 3) := by decide +kernel
theorem dX1_turn_68 : decode cX1_turn 68 = .ok (.ifCond .eq 7, 3) := by decide +kernel
theorem dX1_turn_71 : decode cX1_turn 71 = .ok (.iconst 1, 1) := by decide +kernel
theorem dX1_turn_72 : decode cX1_turn 72 = .ok (.goto 4, 3) := by decide +kernel
theorem dX1_turn_75 : decode cX1_turn 75 = .ok (.iconst 0, 1) := by decide +kernel
theorem dX1_turn_76 : decode cX1_turn 76 = .ok (.ireturn, 1) := by decide +kernel
theorem dX1_turn_77 : decode cX1_turn 77 = .ok (.aload_n 1, 1) := by decide +kernel
theorem dX1_turn_78 : decode cX1_turn 78 = .ok (.getfield 69, 3) := by decide +kernel
theorem dX1_turn_81 : decode cX1_turn 81 = .ok (.iload_n 3, 1) := by decide +kernel
theorem dX1_turn_82 : decode cX1_turn 82 = .ok (.aload_n 1, 1) := by decide +kernel
theorem dX1_turn_83 : decode cX1_turn 83 = .ok (.getfield 69, 3) := by decide +kernel
theorem dX1_turn_86 : decode cX1_turn 86 = .ok (.iload_n 3, 1) := by decide +kernel
theorem dX1_turn_87 : decode cX1_turn 87 = .ok (.iaload, 1) := by decide +kernel
theorem dX1_turn_88 : decode cX1_turn 88 = .ok (.iload 4, 2) := by decide +kernel
theorem dX1_turn_90 : decode cX1_turn 90 = .ok (.iadd, 1) := by decide +kernel
theorem dX1_turn_91 : decode cX1_turn 91 = .ok (.aload_n 1, 1) := by decide +kernel
theorem dX1_turn_92 : decode cX1_turn 92 = .ok (.getfield 63, 3) := by decide +kernel
theorem dX1_turn_95 : decode cX1_turn 95 = .ok (.iload_n 3, 1) := by decide +kernel
theorem dX1_turn_96 : decode cX1_turn 96 = .ok (.iaload, 1) := by decide +kernel
theorem dX1_turn_97 : decode cX1_turn 97 = .ok (.irem, 1) := by decide +kernel
theorem dX1_turn_98 : decode cX1_turn 98 = .ok (.iastore, 1) := by decide +kernel
theorem dX1_turn_99 : decode cX1_turn 99 = .ok (.aload_n 1, 1) := by decide +kernel
theorem dX1_turn_100 : decode cX1_turn 100 = .ok (.getfield 69, 3) := by decide +kernel
theorem dX1_turn_103 : decode cX1_turn 103 = .ok (.iload_n 3, 1) := by decide +kernel
theorem dX1_turn_104 : decode cX1_turn 104 = .ok (.iaload, 1) := by decide +kernel
theorem dX1_turn_105 : decode cX1_turn 105 = .ok (.ireturn, 1) := by decide +kernel
theorem dX1_turn_106 : decode cX1_turn 106 = .ok (.aload_n 1, 1) := by decide +kernel
theorem dX1_turn_107 : decode cX1_turn 107 = .ok (.dup, 1) := by decide +kernel
theorem dX1_turn_108 : decode cX1_turn 108 = .ok (.getfield 72, 3) := by decide +kernel
theorem dX1_turn_111 : decode cX1_turn 111 = .ok (.iconst 1, 1) := by decide +kernel
theorem dX1_turn_112 : decode cX1_turn 112 = .ok (.iload_n 3, 1) := by decide +kernel
theorem dX1_turn_113 : decode cX1_turn 113 = .ok (.ishl, 1) := by decide +kernel
theorem dX1_turn_114 : decode cX1_turn 114 = .ok (.ixor, 1) := by decide +kernel
theorem dX1_turn_115 : decode cX1_turn 115 = .ok (.putfield 72, 3) := by decide +kernel
theorem dX1_turn_118 : decode cX1_turn 118 = .ok (.aload_n 1, 1) := by decide +kernel
theorem dX1_turn_119 : decode cX1_turn 119 = .ok (.iload_n 3, 1) := by decide +kernel
theorem dX1_turn_120 : decode cX1_turn 120 = .ok (.invokevirtual 75, 3) := by decide +kernel
theorem dX1_turn_123 : decode cX1_turn 123 = .ok (.ifCond .eq 7, 3) := by decide +kernel
theorem dX1_turn_126 : decode cX1_turn 126 = .ok (.iconst 1, 1) := by decide +kernel
theorem dX1_turn_127 : decode cX1_turn 127 = .ok (.goto 4, 3) := by decide +kernel
theorem dX1_turn_130 : decode cX1_turn 130 = .ok (.iconst 0, 1) := by decide +kernel
theorem dX1_turn_131 : decode cX1_turn 131 = .ok (.ireturn, 1) := by decide +kernel
theorem dX1_passHour_0 : decode cX1_passHour 0 = .ok (.aload_n 0, 1) := by decide +kernel
theorem dX1_passHour_1 : decode cX1_passHour 1 = .ok (.getfield 9, 3) := by decide +kernel
theorem dX1_passHour_4 : decode cX1_passHour 4 = .ok (.aload_n 1, 1) := by decide +kernel
theorem dX1_passHour_5 : decode cX1_passHour 5 = .ok (.iconst 0, 1) := by decide +kernel
theorem dX1_passHour_6 : decode cX1_passHour 6 = .ok (.invokevirtual 78, 3) := by decide +kernel
theorem dX1_passHour_9 : decode cX1_passHour 9 = .ok (.istore_n 2, 1) := by decide +kernel
theorem dX1_passHour_10 : decode cX1_passHour 10 = .ok (.aload_n 1, 1) := by decide +kernel
theorem dX1_passHour_11 : decode cX1_passHour 11 = .ok (.aload_n 1, 1) := by decide +kernel
theorem dX1_passHour_12 : decode cX1_passHour 12 = .ok (.getfield 46, 3) := by decide +kernel
theorem dX1_passHour_15 : decode cX1_passHour 15 = .ok (.invokevirtual 50, 3) := by decide +kernel
theorem dX1_passHour_18 : decode cX1_passHour 18 = .ok (.astore_n 3, 1) := by decide +kernel
theorem dX1_passHour_19 : decode cX1_passHour 19 = .ok (.iconst 0, 1) := by decide +kernel
theorem dX1_passHour_20 : decode cX1_passHour 20 = .ok (.istore 4, 2) := by decide +kernel
theorem dX1_passHour_22 : decode cX1_passHour 22 = .ok (.iload 4, 2) := by decide +kernel
theorem dX1_passHour_24 : decode cX1_passHour 24 = .ok (.aload_n 1, 1) := by decide +kernel
theorem dX1_passHour_25 : decode cX1_passHour 25 = .ok (.getfield 82, 3) := by decide +kernel
theorem dX1_passHour_28 : decode cX1_passHour 28 = .ok (.if_icmp .ge 82, 3) := by decide +kernel
theorem dX1_passHour_31 : decode cX1_passHour 31 = .ok (.iload 4, 2) := by decide +kernel
theorem dX1_passHour_33 : decode cX1_passHour 33 = .ok (.bipush 6, 2) := by decide +kernel
theorem dX1_passHour_35 : decode cX1_passHour 35 = .ok (.if_icmp .ge 75, 3) := by decide +kernel
theorem dX1_passHour_38 : decode cX1_passHour 38 = .ok (.aload_n 1, 1) := by decide +kernel
theorem dX1_passHour_39 : decode cX1_passHour 39 = .ok (.getfield 69, 3) := by decide +kernel
theorem dX1_passHour_42 : decode cX1_passHour 42 = .ok (.iload 4, 2) := by decide +kernel
theorem dX1_passHour_44 : decode cX1_passHour 44 = .ok (.iaload, 1) := by decide +kernel
theorem dX1_passHour_45 : decode cX1_passHour 45 = .ok (.istore 5, 2) := by decide +kernel
theorem dX1_passHour_47 : decode cX1_passHour 47 = .ok (.aload_n 1, 1) := by decide +kernel
theorem dX1_passHour_48 : decode cX1_passHour 48 = .ok (.iload 4, 2) := by decide +kernel
theorem dX1_passHour_50 : decode cX1_passHour 50 = .ok (.iconst 0, 1) := by decide +kernel
theorem dX1_passHour_51 : decode cX1_passHour 51 = .ok (.invokevirtual 85, 3) := by decide +kernel
theorem dX1_passHour_54 : decode cX1_passHour 54 = .ok (.ifCond .eq 36, 3) := by decide +kernel
theorem dX1_passHour_57 : decode cX1_passHour 57 = .ok (.aload_n 0, 1) := by decide +kernel
theorem dX1_passHour_58 : decode cX1_passHour 58 = .ok (.getfield 9, 3) := by decide +kernel
theorem dX1_passHour_61 : decode cX1_passHour 61 = .ok (.aload_n 1, 1) := by decide +kernel
theorem dX1_passHour_62 : decode cX1_passHour 62 = .ok (.aload_n 3, 1) := by decide +kernel
theorem dX1_passHour_63 : decode cX1_passHour 63 = .ok (.iconst 1, 1) := by decide +kernel
theorem dX1_passHour_64 : decode cX1_passHour 64 = .ok (.iload 4, 2) := by decide +kernel
theorem dX1_passHour_66 : decode cX1_passHour 66 = .ok (.iload 5, 2) := by decide +kernel
theorem dX1_passHour_68 : decode cX1_passHour 68 = .ok (.invokevirtual 57, 3) := by decide +kernel
theorem dX1_passHour_71 : decode cX1_passHour 71 = .ok (.ifCond .eq 19, 3) := by decide +kernel
theorem dX1_passHour_74 : decode cX1_passHour 74 = .ok (.aload_n 1, 1) := by decide +kernel
theorem dX1_passHour_75 : decode cX1_passHour 75 = .ok (.getfield 66, 3) := by decide +kernel
theorem dX1_passHour_78 : decode cX1_passHour 78 = .ok (.iload 4, 2) := by decide +kernel
theorem dX1_passHour_80 : decode cX1_passHour 80 = .ok (.dup2, 1) := by decide +kernel
theorem dX1_passHour_81 : decode cX1_passHour 81 = .ok (.iaload, 1) := by decide +kernel
theorem dX1_passHour_82 : decode cX1_passHour 82 = .ok (.iconst 1, 1) := by decide +kernel
theorem dX1_passHour_83 : decode cX1_passHour 83 = .ok (.iload 5, 2) := by decide +kernel
theorem dX1_passHour_85 : decode cX1_passHour 85 = .ok (.ishl, 1) := by decide +kernel
theorem dX1_passHour_86 : decode cX1_passHour 86 = .ok (.iconst (-1), 1) := by decide +kernel
theorem dX1_passHour_87 : decode cX1_passHour 87 = .ok (.ixor, 1) := by decide +kernel
theorem dX1_passHour_88 : decode cX1_passHour 88 = .ok (.iand, 1) := by decide +kernel
theorem dX1_passHour_89 : decode cX1_passHour 89 = .ok (.iastore, 1) := by decide +kernel
theorem dX1_passHour_90 : decode cX1_passHour 90 = .ok (.aload_n 1, 1) := by decide +kernel
theorem dX1_passHour_91 : decode cX1_passHour 91 = .ok (.getfield 69, 3) := by decide +kernel
theorem dX1_passHour_94 : decode cX1_passHour 94 = .ok (.iload 4, 2) := by decide +kernel
theorem dX1_passHour_96 : decode cX1_passHour 96 = .ok (.aload_n 1, 1) := by decide +kernel
theorem dX1_passHour_97 : decode cX1_passHour 97 = .ok (.iload 4, 2) := by decide +kernel
theorem dX1_passHour_99 : decode cX1_passHour 99 = .ok (.iconst 1, 1) := by decide +kernel
theorem dX1_passHour_100 : decode cX1_passHour 100 = .ok (.invokevirtual 88, 3) := by decide +kernel
theorem dX1_passHour_103 : decode cX1_passHour 103 = .ok (.iastore, 1) := by decide +kernel
theorem dX1_passHour_104 : decode cX1_passHour 104 = .ok (.iinc 4 1, 3) := by decide +kernel
theorem dX1_passHour_107 : decode cX1_passHour 107 = .ok (.goto (-85), 3) := by decide +kernel
theorem dX1_passHour_110 : decode cX1_passHour 110 = .ok (.aload_n 1, 1) := by decide +kernel
theorem dX1_passHour_111 : decode cX1_passHour 111 = .ok (.getfield 32, 3) := by decide +kernel
theorem dX1_passHour_114 : decode cX1_passHour 114 = .ok (.iconst 0, 1) := by decide +kernel
theorem dX1_passHour_115 : decode cX1_passHour 115 = .ok (.dup2, 1) := by decide +kernel
theorem dX1_passHour_116 : decode cX1_passHour 116 = .ok (.iaload, 1) := by decide +kernel
theorem dX1_passHour_117 : decode cX1_passHour 117 = .ok (.iconst 1, 1) := by decide +kernel
theorem dX1_passHour_118 : decode cX1_passHour 118 = .ok (.iadd, 1) := by decide +kernel
theorem dX1_passHour_119 : decode cX1_passHour 119 = .ok (.iastore, 1) := by decide +kernel
theorem dX1_passHour_120 : decode cX1_passHour 120 = .ok (.iload_n 2, 1) := by decide +kernel
theorem dX1_passHour_121 : decode cX1_passHour 121 = .ok (.ireturn, 1) := by decide +kernel
theorem dX2_init_0 : decode cX2_init 0 = .ok (.aload_n 0, 1) := by decide +kernel
theorem dX2_init_1 : decode cX2_init 1 = .ok (.invokespecial 3, 3) := by decide +kernel
theorem dX2_init_4 : decode cX2_init 4 = .ok (.aload_n 0, 1) := by decide +kernel
theorem dX2_init_5 : decode cX2_init 5 = .ok (.bipush 16, 2) := by decide +kernel
theorem dX2_init_7 : decode cX2_init 7 = .ok (.newarray .int, 2) := by decide +kernel
theorem dX2_init_9 : decode cX2_init 9 = .ok (.putfield 9, 3) := by decide +kernel
theorem dX2_init_12 : decode cX2_init 12 = .ok (.aload_n 0, 1) := by decide +kernel
theorem dX2_init_13 : decode cX2_init 13 = .ok (.bipush 16, 2) := by decide +kernel
theorem dX2_init_15 : decode cX2_init 15 = .ok (.newarray .int, 2) := by decide +kernel
theorem dX2_init_17 : decode cX2_init 17 = .ok (.putfield 15, 3) := by decide +kernel
theorem dX2_init_20 : decode cX2_init 20 = .ok (.aload_n 0, 1) := by decide +kernel
theorem dX2_init_21 : decode cX2_init 21 = .ok (.bipush 16, 2) := by decide +kernel
theorem dX2_init_23 : decode cX2_init 23 = .ok (.newarray .int, 2) := by decide +kernel
theorem dX2_init_25 : decode cX2_init 25 = .ok (.putfield 18, 3) := by decide +kernel
theorem dX2_init_28 : decode cX2_init 28 = .ok (.aload_n 0, 1) := by decide +kernel
theorem dX2_init_29 : decode cX2_init 29 = .ok (.bipush 96, 2) := by decide +kernel
theorem dX2_init_31 : decode cX2_init 31 = .ok (.newarray .int, 2) := by decide +kernel
theorem dX2_init_33 : decode cX2_init 33 = .ok (.putfield 21, 3) := by decide +kernel
theorem dX2_init_36 : decode cX2_init 36 = .ok (.aload_n 0, 1) := by decide +kernel
theorem dX2_init_37 : decode cX2_init 37 = .ok (.bipush 96, 2) := by decide +kernel
theorem dX2_init_39 : decode cX2_init 39 = .ok (.newarray .int, 2) := by decide +kernel
theorem dX2_init_41 : decode cX2_init 41 = .ok (.putfield 24, 3) := by decide +kernel
theorem dX2_init_44 : decode cX2_init 44 = .ok (.aload_n 0, 1) := by decide +kernel
theorem dX2_init_45 : decode cX2_init 45 = .ok (.iconst 0, 1) := by decide +kernel
theorem dX2_init_46 : decode cX2_init 46 = .ok (.putfield 27, 3) := by decide +kernel
theorem dX2_init_49 : decode cX2_init 49 = .ok (.aload_n 0, 1) := by decide +kernel
theorem dX2_init_50 : decode cX2_init 50 = .ok (.iconst 0, 1) := by decide +kernel
theorem dX2_init_51 : decode cX2_init 51 = .ok (.putfield 31, 3) := by decide +kernel
theorem dX2_init_54 : decode cX2_init 54 = .ok (.return_, 1) := by decide +kernel
theorem dX2_clear_0 : decode cX2_clear 0 = .ok (.aload_n 0, 1) := by decide +kernel
theorem dX2_clear_1 : decode cX2_clear 1 = .ok (.iconst 0, 1) := by decide +kernel
theorem dX2_clear_2 : decode cX2_clear 2 = .ok (.putfield 27, 3) := by decide +kernel
theorem dX2_clear_5 : decode cX2_clear 5 = .ok (.aload_n 0, 1) := by decide +kernel
theorem dX2_clear_6 : decode cX2_clear 6 = .ok (.iconst 0, 1) := by decide +kernel
theorem dX2_clear_7 : decode cX2_clear 7 = .ok (.putfield 31, 3) := by decide +kernel
theorem dX2_clear_10 : decode cX2_clear 10 = .ok (.return_, 1) := by decide +kernel
theorem dX2_keep_0 : decode cX2_keep 0 = .ok (.aload_n 0, 1) := by decide +kernel
theorem dX2_keep_1 : decode cX2_keep 1 = .ok (.getfield 31, 3) := by decide +kernel
theorem dX2_keep_4 : decode cX2_keep 4 = .ok (.bipush 16, 2) := by decide +kernel
theorem dX2_keep_6 : decode cX2_keep 6 = .ok (.if_icmp .lt 22, 3) := by decide +kernel
theorem dX2_keep_9 : decode cX2_keep 9 = .ok (.aload_n 0, 1) := by decide +kernel
theorem dX2_keep_10 : decode cX2_keep 10 = .ok (.aload_n 0, 1) := by decide +kernel
theorem dX2_keep_11 : decode cX2_keep 11 = .ok (.getfield 27, 3) := by decide +kernel
theorem dX2_keep_14 : decode cX2_keep 14 = .ok (.iconst 1, 1) := by decide +kernel
theorem dX2_keep_15 : decode cX2_keep 15 = .ok (.iadd, 1) := by decide +kernel
theorem dX2_keep_16 : decode cX2_keep 16 = .ok (.bipush 16, 2) := by decide +kernel
theorem dX2_keep_18 : decode cX2_keep 18 = .ok (.irem, 1) := by decide +kernel
theorem dX2_keep_19 : decode cX2_keep 19 = .ok (.putfield 27, 3) := by decide +kernel
theorem dX2_keep_22 : decode cX2_keep 22 = .ok (.aload_n 0, 1) := by decide +kernel
theorem dX2_keep_23 : decode cX2_keep 23 = .ok (.bipush 15, 2) := by decide +kernel
theorem dX2_keep_25 : decode cX2_keep 25 = .ok (.putfield 31, 3) := by decide +kernel
theorem dX2_keep_28 : decode cX2_keep 28 = .ok (.aload_n 0, 1) := by decide +kernel
theorem dX2_keep_29 : decode cX2_keep 29 = .ok (.getfield 27, 3) := by decide +kernel
theorem dX2_keep_32 : decode cX2_keep 32 = .ok (.aload_n 0, 1) := by decide +kernel
theorem dX2_keep_33 : decode cX2_keep 33 = .ok (.getfield 31, 3) := by decide +kernel
theorem dX2_keep_36 : decode cX2_keep 36 = .ok (.iadd, 1) := by decide +kernel
theorem dX2_keep_37 : decode cX2_keep 37 = .ok (.bipush 16, 2) := by decide +kernel
theorem dX2_keep_39 : decode cX2_keep 39 = .ok (.irem, 1) := by decide +kernel
theorem dX2_keep_40 : decode cX2_keep 40 = .ok (.istore_n 3, 1) := by decide +kernel
theorem dX2_keep_41 : decode cX2_keep 41 = .ok (.aload_n 0, 1) := by decide +kernel
theorem dX2_keep_42 : decode cX2_keep 42 = .ok (.dup, 1) := by decide +kernel
theorem dX2_keep_43 : decode cX2_keep 43 = .ok (.getfield 31, 3) := by decide +kernel
theorem dX2_keep_46 : decode cX2_keep 46 = .ok (.iconst 1, 1) := by decide +kernel
theorem dX2_keep_47 : decode cX2_keep 47 = .ok (.iadd, 1) := by decide +kernel
theorem dX2_keep_48 : decode cX2_keep 48 = .ok (.putfield 31, 3) := by decide +kernel
theorem dX2_keep_51 : decode cX2_keep 51 = .ok (.aload_n 0, 1) := by decide +kernel
theorem dX2_keep_52 : decode cX2_keep 52 = .ok (.getfield 9, 3) := by decide +kernel
theorem dX2_keep_55 : decode cX2_keep 55 = .ok (.iload_n 3, 1) := by decide +kernel
theorem dX2_keep_56 : decode cX2_keep 56 = .ok (.iload_n 1, 1) := by decide +kernel
theorem dX2_keep_57 : decode cX2_keep 57 = .ok (.iastore, 1) := by decide +kernel
theorem dX2_keep_58 : decode cX2_keep 58 = .ok (.aload_n 0, 1) := by decide +kernel
theorem dX2_keep_59 : decode cX2_keep 59 = .ok (.getfield 15, 3) := by decide +kernel
theorem dX2_keep_62 : decode cX2_keep 62 = .ok (.iload_n 3, 1) := by decide +kernel
theorem dX2_keep_63 : decode cX2_keep 63 = .ok (.aload_n 2, 1) := by decide +kernel
theorem dX2_keep_64 : decode cX2_keep 64 = .ok (.getfield 34, 3) := by decide +kernel
theorem dX2_keep_67 : decode cX2_keep 67 = .ok (.iconst 0, 1) := by decide +kernel
theorem dX2_keep_68 : decode cX2_keep 68 = .ok (.iaload, 1) := by decide +kernel
theorem dX2_keep_69 : decode cX2_keep 69 = .ok (.iastore, 1) := by decide +kernel
theorem dX2_keep_70 : decode cX2_keep 70 = .ok (.aload_n 0, 1) := by decide +kernel
theorem dX2_keep_71 : decode cX2_keep 71 = .ok (.getfield 18, 3) := by decide +kernel
theorem dX2_keep_74 : decode cX2_keep 74 = .ok (.iload_n 3, 1) := by decide +kernel
theorem dX2_keep_75 : decode cX2_keep 75 = .ok (.aload_n 2, 1) := by decide +kernel
theorem dX2_keep_76 : decode cX2_keep 76 = .ok (.getfield 39, 3) := by decide +kernel
theorem dX2_keep_79 : decode cX2_keep 79 = .ok (.iastore, 1) := by decide +kernel
theorem dX2_keep_80 : decode cX2_keep 80 = .ok (.iconst 0, 1) := by decide +kernel
theorem dX2_keep_81 : decode cX2_keep 81 = .ok (.istore 4, 2) := by decide +kernel
theorem dX2_keep_83 : decode cX2_keep 83 = .ok (.iload 4, 2) := by decide +kernel
theorem dX2_keep_85 : decode cX2_keep 85 = .ok (.bipush 6, 2) := by decide +kernel
theorem dX2_keep_87 : decode cX2_keep 87 = .ok (.if_icmp .ge 47, 3) := by decide +kernel
theorem dX2_keep_90 : decode cX2_keep 90 = .ok (.aload_n 0, 1) := by decide +kernel
theorem dX2_keep_91 : decode cX2_keep 91 = .ok (.getfield 21, 3) := by decide +kernel
theorem dX2_keep_94 : decode cX2_keep 94 = .ok (.iload_n 3, 1) := by decide +kernel
theorem dX2_keep_95 : decode cX2_keep 95 = .ok (.bipush 6, 2) := by decide +kernel
theorem dX2_keep_97 : decode cX2_keep 97 = .ok (.imul, 1) := by decide +kernel
theorem dX2_keep_98 : decode cX2_keep 98 = .ok (.iload 4, 2) := by decide +kernel
theorem dX2_keep_100 : decode cX2_keep 100 = .ok (.iadd, 1) := by decide +kernel
theorem dX2_keep_101 : decode cX2_keep 101 = .ok (.aload_n 2, 1) := by decide +kernel
theorem dX2_keep_102 : decode cX2_keep 102 = .ok (.getfield 41, 3) := by decide +kernel
theorem dX2_keep_105 : decode cX2_keep 105 = .ok (.iload 4, 2) := by decide +kernel
theorem dX2_keep_107 : decode cX2_keep 107 = .ok (.iaload, 1) := by decide +kernel
theorem dX2_keep_108 : decode cX2_keep 108 = .ok (.iastore, 1) := by decide +kernel
theorem dX2_keep_109 : decode cX2_keep 109 = .ok (.aload_n 0, 1) := by decide +kernel
theorem dX2_keep_110 : decode cX2_keep 110 = .ok (.getfield 24, 3) := by decide +kernel
theorem dX2_keep_113 : decode cX2_keep 113 = .ok (.iload_n 3, 1) := by decide +kernel
theorem dX2_keep_114 : decode cX2_keep 114 = .ok (.bipush 6, 2) := by decide +kernel
theorem dX2_keep_116 : decode cX2_keep 116 = .ok (.imul, 1) := by decide +kernel
theorem dX2_keep_117 : decode cX2_keep 117 = .ok (.iload 4, 2) := by decide +kernel
theorem dX2_keep_119 : decode cX2_keep 119 = .ok (.iadd, 1) := by decide +kernel
theorem dX2_keep_120 : decode cX2_keep 120 = .ok (.aload_n 2, 1) := by decide +kernel
theorem dX2_keep_121 : decode cX2_keep 121 = .ok (.getfield 42, 3) := by decide +kernel
theorem dX2_keep_124 : decode cX2_keep 124 = .ok (.iload 4, 2) := by decide +kernel
theorem dX2_keep_126 : decode cX2_keep 126 = .ok (.iaload, 1) := by decide +kernel
theorem dX2_keep_127 : decode cX2_keep 127 = .ok (.iastore, 1) := by decide +kernel
theorem dX2_keep_128 : decode cX2_keep 128 = .ok (.iinc 4 1, 3) := by decide +kernel
theorem dX2_keep_131 : decode cX2_keep 131 = .ok (.goto (-48), 3) := by decide +kernel
theorem dX2_keep_134 : decode cX2_keep 134 = .ok (.return_, 1) := by decide +kernel
theorem dX2_giveBack_0 : decode cX2_giveBack 0 = .ok (.aload_n 0, 1) := by decide +kernel
theorem dX2_giveBack_1 : decode cX2_giveBack 1 = .ok (.getfield 31, 3) := by decide +kernel
theorem dX2_giveBack_4 : decode cX2_giveBack 4 = .ok (.ifCond .gt 5, 3) := by decide +kernel
theorem dX2_giveBack_7 : decode cX2_giveBack 7 = .ok (.iconst (-1), 1) := by decide +kernel
theorem dX2_giveBack_8 : decode cX2_giveBack 8 = .ok (.ireturn, 1) := by decide +kernel
theorem dX2_giveBack_9 : decode cX2_giveBack 9 = .ok (.aload_n 0, 1) := by decide +kernel
theorem dX2_giveBack_10 : decode cX2_giveBack 10 = .ok (.dup, 1) := by decide +kernel
theorem dX2_giveBack_11 : decode cX2_giveBack 11 = .ok (.getfield 31, 3) := by decide +kernel
theorem dX2_giveBack_14 : decode cX2_giveBack 14 = .ok (.iconst 1, 1) := by decide +kernel
theorem dX2_giveBack_15 : decode cX2_giveBack 15 = .ok (.isub, 1) := by decide +kernel
theorem dX2_giveBack_16 : decode cX2_giveBack 16 = .ok (.putfield 31, 3) := by decide +kernel
theorem dX2_giveBack_19 : decode cX2_giveBack 19 = .ok (.aload_n 0, 1) := by decide +kernel
theorem dX2_giveBack_20 : decode cX2_giveBack 20 = .ok (.getfield 27, 3) := by decide +kernel
theorem dX2_giveBack_23 : decode cX2_giveBack 23 = .ok (.aload_n 0, 1) := by decide +kernel
theorem dX2_giveBack_24 : decode cX2_giveBack 24 = .ok (.getfield 31, 3) := by decide +kernel
theorem dX2_giveBack_27 : decode cX2_giveBack 27 = .ok (.iadd, 1) := by decide +kernel
theorem dX2_giveBack_28 : decode cX2_giveBack 28 = .ok (.bipush 16, 2) := by decide +kernel
theorem dX2_giveBack_30 : decode cX2_giveBack 30 = .ok (.irem, 1) := by decide +kernel
theorem dX2_giveBack_31 : decode cX2_giveBack 31 = .ok (.istore_n 2, 1) := by decide +kernel
theorem dX2_giveBack_32 : decode cX2_giveBack 32 = .ok (.aload_n 1, 1) := by decide +kernel
theorem dX2_giveBack_33 : decode cX2_giveBack 33 = .ok (.getfield 34, 3) := by decide +kernel
theorem dX2_giveBack_36 : decode cX2_giveBack 36 = .ok (.iconst 0, 1) := by decide +kernel
theorem dX2_giveBack_37 : decode cX2_giveBack 37 = .ok (.aload_n 0, 1) := by decide +kernel
theorem dX2_giveBack_38 : decode cX2_giveBack 38 = .ok (.getfield 15, 3) := by decide +kernel
theorem dX2_giveBack_41 : decode cX2_giveBack 41 = .ok (.iload_n 2, 1) := by decide +kernel
theorem dX2_giveBack_42 : decode cX2_giveBack 42 = .ok (.iaload, 1) := by decide +kernel
theorem dX2_giveBack_43 : decode cX2_giveBack 43 = .ok (.iastore, 1) := by decide +kernel
theorem dX2_giveBack_44 : decode cX2_giveBack 44 = .ok (.aload_n 1, 1) := by decide +kernel
theorem dX2_giveBack_45 : decode cX2_giveBack 45 = .ok (.aload_n 0, 1) := by decide +kernel
theorem dX2_giveBack_46 : decode cX2_giveBack 46 = .ok (.getfield 18, 3) := by decide +kernel
theorem dX2_giveBack_49 : decode cX2_giveBack 49 = .ok (.iload_n 2, 1) := by decide +kernel
theorem dX2_giveBack_50 : decode cX2_giveBack 50 = .ok (.iaload, 1) := by decide +kernel
theorem dX2_giveBack_51 : decode cX2_giveBack 51 = .ok (.putfield 39, 3) := by decide +kernel
theorem dX2_giveBack_54 : decode cX2_giveBack 54 = .ok (.iconst 0, 1) := by decide +kernel
theorem dX2_giveBack_55 : decode cX2_giveBack 55 = .ok (.istore_n 3, 1) := by decide +kernel
theorem dX2_giveBack_56 : decode cX2_giveBack 56 = .ok (.iload_n 3, 1) := by decide +kernel
theorem dX2_giveBack_57 : decode cX2_giveBack 57 = .ok (.bipush 6, 2) := by decide +kernel
theorem dX2_giveBack_59 : decode cX2_giveBack 59 = .ok (.if_icmp .ge 43, 3) := by decide +kernel
theorem dX2_giveBack_62 : decode cX2_giveBack 62 = .ok (.aload_n 1, 1) := by decide +kernel
theorem dX2_giveBack_63 : decode cX2_giveBack 63 = .ok (.getfield 41, 3) := by decide +kernel
theorem dX2_giveBack_66 : decode cX2_giveBack 66 = .ok (.iload_n 3, 1) := by decide +kernel
theorem dX2_giveBack_67 : decode cX2_giveBack 67 = .ok (.aload_n 0, 1) := by decide +kernel
theorem dX2_giveBack_68 : decode cX2_giveBack 68 = .ok (.getfield 21, 3) := by decide +kernel
theorem dX2_giveBack_71 : decode cX2_giveBack 71 = .ok (.iload_n 2, 1) := by decide +kernel
theorem dX2_giveBack_72 : decode cX2_giveBack 72 = .ok (.bipush 6, 2) := by decide +kernel
theorem dX2_giveBack_74 : decode cX2_giveBack 74 = .ok (.imul, 1) := by decide +kernel
theorem dX2_giveBack_75 : decode cX2_giveBack 75 = .ok (.iload_n 3, 1) := by decide +kernel
theorem dX2_giveBack_76 : decode cX2_giveBack 76 = .ok (.iadd, 1) := by decide +kernel
theorem dX2_giveBack_77 : decode cX2_giveBack 77 = .ok (.iaload, 1) := by decide +kernel
theorem dX2_giveBack_78 : decode cX2_giveBack 78 = .ok (.iastore, 1) := by decide +kernel
theorem dX2_giveBack_79 : decode cX2_giveBack 79 = .ok (.aload_n 1, 1) := by decide +kernel
theorem dX2_giveBack_80 : decode cX2_giveBack 80 = .ok (.getfield 42, 3) := by decide +kernel
theorem dX2_giveBack_83 : decode cX2_giveBack 83 = .ok (.iload_n 3, 1) := by decide +kernel
theorem dX2_giveBack_84 : decode cX2_giveBack 84 = .ok (.aload_n 0, 1) := by decide +kernel
theorem dX2_giveBack_85 : decode cX2_giveBack 85 = .ok (.getfield 24, 3) := by decide +kernel
theorem dX2_giveBack_88 : decode cX2_giveBack 88 = .ok (.iload_n 2, 1) := by decide +kernel
theorem dX2_giveBack_89 : decode cX2_giveBack 89 = .ok (.bipush 6, 2) := by decide +kernel
theorem dX2_giveBack_91 : decode cX2_giveBack 91 = .ok (.imul, 1) := by decide +kernel
theorem dX2_giveBack_92 : decode cX2_giveBack 92 = .ok (.iload_n 3, 1) := by decide +kernel
theorem dX2_giveBack_93 : decode cX2_giveBack 93 = .ok (.iadd, 1) := by decide +kernel
theorem dX2_giveBack_94 : decode cX2_giveBack 94 = .ok (.iaload, 1) := by decide +kernel
theorem dX2_giveBack_95 : decode cX2_giveBack 95 = .ok (.iastore, 1) := by decide +kernel
theorem dX2_giveBack_96 : decode cX2_giveBack 96 = .ok (.iinc 3 1, 3) := by decide +kernel
theorem dX2_giveBack_99 : decode cX2_giveBack 99 = .ok (.goto (-43), 3) := by decide +kernel
theorem dX2_giveBack_102 : decode cX2_giveBack 102 = .ok (.aload_n 0, 1) := by decide +kernel
theorem dX2_giveBack_103 : decode cX2_giveBack 103 = .ok (.getfield 9, 3) := by decide +kernel
theorem dX2_giveBack_106 : decode cX2_giveBack 106 = .ok (.iload_n 2, 1) := by decide +kernel
theorem dX2_giveBack_107 : decode cX2_giveBack 107 = .ok (.iaload, 1) := by decide +kernel
theorem dX2_giveBack_108 : decode cX2_giveBack 108 = .ok (.ireturn, 1) := by decide +kernel
theorem dX2_become_0 : decode cX2_become 0 = .ok (.iconst 0, 1) := by decide +kernel
theorem dX2_become_1 : decode cX2_become 1 = .ok (.istore_n 2, 1) := by decide +kernel
theorem dX2_become_2 : decode cX2_become 2 = .ok (.iload_n 2, 1) := by decide +kernel
theorem dX2_become_3 : decode cX2_become 3 = .ok (.bipush 16, 2) := by decide +kernel
theorem dX2_become_5 : decode cX2_become 5 = .ok (.if_icmp .ge 45, 3) := by decide +kernel
theorem dX2_become_8 : decode cX2_become 8 = .ok (.aload_n 0, 1) := by decide +kernel
theorem dX2_become_9 : decode cX2_become 9 = .ok (.getfield 9, 3) := by decide +kernel
theorem dX2_become_12 : decode cX2_become 12 = .ok (.iload_n 2, 1) := by decide +kernel
theorem dX2_become_13 : decode cX2_become 13 = .ok (.aload_n 1, 1) := by decide +kernel
theorem dX2_become_14 : decode cX2_become 14 = .ok (.getfield 9, 3) := by decide +kernel
theorem dX2_become_17 : decode cX2_become 17 = .ok (.iload_n 2, 1) := by decide +kernel
theorem dX2_become_18 : decode cX2_become 18 = .ok (.iaload, 1) := by decide +kernel
theorem dX2_become_19 : decode cX2_become 19 = .ok (.iastore, 1) := by decide +kernel
theorem dX2_become_20 : decode cX2_become 20 = .ok (.aload_n 0, 1) := by decide +kernel
theorem dX2_become_21 : decode cX2_become 21 = .ok (.getfield 15, 3) := by decide +kernel
theorem dX2_become_24 : decode cX2_become 24 = .ok (.iload_n 2, 1) := by decide +kernel
theorem dX2_become_25 : decode cX2_become 25 = .ok (.aload_n 1, 1) := by decide +kernel
theorem dX2_become_26 : decode cX2_become 26 = .ok (.getfield 15, 3) := by decide +kernel
theorem dX2_become_29 : decode cX2_become 29 = .ok (.iload_n 2, 1) := by decide +kernel
theorem dX2_become_30 : decode cX2_become 30 = .ok (.iaload, 1) := by decide +kernel
theorem dX2_become_31 : decode cX2_become 31 = .ok (.iastore, 1) := by decide +kernel
theorem dX2_become_32 : decode cX2_become 32 = .ok (.aload_n 0, 1) := by decide +kernel
theorem dX2_become_33 : decode cX2_become 33 = .ok (.getfield 18, 3) := by decide +kernel
theorem dX2_become_36 : decode cX2_become 36 = .ok (.iload_n 2, 1) := by decide +kernel
theorem dX2_become_37 : decode cX2_become 37 = .ok (.aload_n 1, 1) := by decide +kernel
theorem dX2_become_38 : decode cX2_become 38 = .ok (.getfield 18, 3) := by decide +kernel
theorem dX2_become_41 : decode cX2_become 41 = .ok (.iload_n 2, 1) := by decide +kernel
theorem dX2_become_42 : decode cX2_become 42 = .ok (.iaload, 1) := by decide +kernel
theorem dX2_become_43 : decode cX2_become 43 = .ok (.iastore, 1) := by decide +kernel
theorem dX2_become_44 : decode cX2_become 44 = .ok (.iinc 2 1, 3) := by decide +kernel
theorem dX2_become_47 : decode cX2_become 47 = .ok (.goto (-45), 3) := by decide +kernel
theorem dX2_become_50 : decode cX2_become 50 = .ok (.iconst 0, 1) := by decide +kernel
theorem dX2_become_51 : decode cX2_become 51 = .ok (.istore_n 2, 1) := by decide +kernel
theorem dX2_become_52 : decode cX2_become 52 = .ok (.iload_n 2, 1) := by decide +kernel
theorem dX2_become_53 : decode cX2_become 53 = .ok (.bipush 96, 2) := by decide +kernel
theorem dX2_become_55 : decode cX2_become 55 = .ok (.if_icmp .ge 33, 3) := by decide +kernel
theorem dX2_become_58 : decode cX2_become 58 = .ok (.aload_n 0, 1) := by decide +kernel
theorem dX2_become_59 : decode cX2_become 59 = .ok (.getfield 21, 3) := by decide +kernel
theorem dX2_become_62 : decode cX2_become 62 = .ok (.iload_n 2, 1) := by decide +kernel
theorem dX2_become_63 : decode cX2_become 63 = .ok (.aload_n 1, 1) := by decide +kernel
theorem dX2_become_64 : decode cX2_become 64 = .ok (.getfield 21, 3) := by decide +kernel
theorem dX2_become_67 : decode cX2_become 67 = .ok (.iload_n 2, 1) := by decide +kernel
theorem dX2_become_68 : decode cX2_become 68 = .ok (.iaload, 1) := by decide +kernel
theorem dX2_become_69 : decode cX2_become 69 = .ok (.iastore, 1) := by decide +kernel
theorem dX2_become_70 : decode cX2_become 70 = .ok (.aload_n 0, 1) := by decide +kernel
theorem dX2_become_71 : decode cX2_become 71 = .ok (.getfield 24, 3) := by decide +kernel
theorem dX2_become_74 : decode cX2_become 74 = .ok (.iload_n 2, 1) := by decide +kernel
theorem dX2_become_75 : decode cX2_become 75 = .ok (.aload_n 1, 1) := by decide +kernel
theorem dX2_become_76 : decode cX2_become 76 = .ok (.getfield 24, 3) := by decide +kernel
theorem dX2_become_79 : decode cX2_become 79 = .ok (.iload_n 2, 1) := by decide +kernel
theorem dX2_become_80 : decode cX2_become 80 = .ok (.iaload, 1) := by decide +kernel
theorem dX2_become_81 : decode cX2_become 81 = .ok (.iastore, 1) := by decide +kernel
theorem dX2_become_82 : decode cX2_become 82 = .ok (.iinc 2 1, 3) := by decide +kernel
theorem dX2_become_85 : decode cX2_become 85 = .ok (.goto (-33), 3) := by decide +kernel
theorem dX2_become_88 : decode cX2_become 88 = .ok (.aload_n 0, 1) := by decide +kernel
theorem dX2_become_89 : decode cX2_become 89 = .ok (.aload_n 1, 1) := by decide +kernel
theorem dX2_become_90 : decode cX2_become 90 = .ok (.getfield 27, 3) := by decide +kernel
theorem dX2_become_93 : decode cX2_become 93 = .ok (.putfield 27, 3) := by decide +kernel
theorem dX2_become_96 : decode cX2_become 96 = .ok (.aload_n 0, 1) := by decide +kernel
theorem dX2_become_97 : decode cX2_become 97 = .ok (.aload_n 1, 1) := by decide +kernel
theorem dX2_become_98 : decode cX2_become 98 = .ok (.getfield 31, 3) := by decide +kernel
theorem dX2_become_101 : decode cX2_become 101 = .ok (.putfield 31, 3) := by decide +kernel
theorem dX2_become_104 : decode cX2_become 104 = .ok (.return_, 1) := by decide +kernel
theorem dX5_init_0 : decode cX5_init 0 = .ok (.aload_n 0, 1) := by decide +kernel
theorem dX5_init_1 : decode cX5_init 1 = .ok (.invokespecial 3, 3) := by decide +kernel
theorem dX5_init_4 : decode cX5_init 4 = .ok (.aload_n 0, 1) := by decide +kernel
theorem dX5_init_5 : decode cX5_init 5 = .ok (.bipush 17, 2) := by decide +kernel
theorem dX5_init_7 : decode cX5_init 7 = .ok (.newarray .int, 2) := by decide +kernel
theorem dX5_init_9 : decode cX5_init 9 = .ok (.putfield 9, 3) := by decide +kernel
theorem dX5_init_12 : decode cX5_init 12 = .ok (.aload_n 0, 1) := by decide +kernel
theorem dX5_init_13 : decode cX5_init 13 = .ok (.iconst (-1), 1) := by decide +kernel
theorem dX5_init_14 : decode cX5_init 14 = .ok (.putfield 15, 3) := by decide +kernel
theorem dX5_init_17 : decode cX5_init 17 = .ok (.aload_n 0, 1) := by decide +kernel
theorem dX5_init_18 : decode cX5_init 18 = .ok (.iconst 0, 1) := by decide +kernel
theorem dX5_init_19 : decode cX5_init 19 = .ok (.putfield 19, 3) := by decide +kernel
theorem dX5_init_22 : decode cX5_init 22 = .ok (.aload_n 0, 1) := by decide +kernel
theorem dX5_init_23 : decode cX5_init 23 = .ok (.aload_n 1, 1) := by decide +kernel
theorem dX5_init_24 : decode cX5_init 24 = .ok (.putfield 22, 3) := by decide +kernel
theorem dX5_init_27 : decode cX5_init 27 = .ok (.aload_n 0, 1) := by decide +kernel
theorem dX5_init_28 : decode cX5_init 28 = .ok (.aload_n 2, 1) := by decide +kernel
theorem dX5_init_29 : decode cX5_init 29 = .ok (.putfield 26, 3) := by decide +kernel
theorem dX5_init_32 : decode cX5_init 32 = .ok (.return_, 1) := by decide +kernel
theorem dX5_run_0 : decode cX5_run 0 = .ok (.aload_n 0, 1) := by decide +kernel
theorem dX5_run_1 : decode cX5_run 1 = .ok (.iconst 0, 1) := by decide +kernel
theorem dX5_run_2 : decode cX5_run 2 = .ok (.putfield 19, 3) := by decide +kernel
theorem dX5_run_5 : decode cX5_run 5 = .ok (.aload_n 0, 1) := by decide +kernel
theorem dX5_run_6 : decode cX5_run 6 = .ok (.iconst (-1), 1) := by decide +kernel
theorem dX5_run_7 : decode cX5_run 7 = .ok (.putfield 15, 3) := by decide +kernel
theorem dX5_run_10 : decode cX5_run 10 = .ok (.iconst 0, 1) := by decide +kernel
theorem dX5_run_11 : decode cX5_run 11 = .ok (.istore 4, 2) := by decide +kernel
theorem dX5_run_13 : decode cX5_run 13 = .ok (.iload 4, 2) := by decide +kernel
theorem dX5_run_15 : decode cX5_run 15 = .ok (.aload_n 1, 1) := by decide +kernel
theorem dX5_run_16 : decode cX5_run 16 = .ok (.getfield 30, 3) := by decide +kernel
theorem dX5_run_19 : decode cX5_run 19 = .ok (.if_icmp .ge 219, 3) := by decide +kernel
theorem dX5_run_22 : decode cX5_run 22 = .ok (.iload 4, 2) := by decide +kernel
theorem dX5_run_24 : decode cX5_run 24 = .ok (.aload_n 1, 1) := by decide +kernel
theorem dX5_run_25 : decode cX5_run 25 = .ok (.getfield 35, 3) := by decide +kernel
theorem dX5_run_28 : decode cX5_run 28 = .ok (.arraylength, 1) := by decide +kernel
theorem dX5_run_29 : decode cX5_run 29 = .ok (.if_icmp .ge 209, 3) := by decide +kernel
theorem dX5_run_32 : decode cX5_run 32 = .ok (.iconst 0, 1) := by decide +kernel
theorem dX5_run_33 : decode cX5_run 33 = .ok (.istore 5, 2) := by decide +kernel
theorem dX5_run_35 : decode cX5_run 35 = .ok (.iload 5, 2) := by decide +kernel
theorem dX5_run_37 : decode cX5_run 37 = .ok (.aload_n 1, 1) := by decide +kernel
theorem dX5_run_38 : decode cX5_run 38 = .ok (.getfield 38, 3) := by decide +kernel
theorem dX5_run_41 : decode cX5_run 41 = .ok (.iload 4, 2) := by decide +kernel
theorem dX5_run_43 : decode cX5_run 43 = .ok (.iaload, 1) := by decide +kernel
theorem dX5_run_44 : decode cX5_run 44 = .ok (.if_icmp .ge 188, 3) := by decide +kernel
theorem dX5_run_47 : decode cX5_run 47 = .ok (.iload 5, 2) := by decide +kernel
theorem dX5_run_49 : decode cX5_run 49 = .ok (.bipush 20, 2) := by decide +kernel
theorem dX5_run_51 : decode cX5_run 51 = .ok (.if_icmp .ge 181, 3) := by decide +kernel
theorem dX5_run_54 : decode cX5_run 54 = .ok (.aload_n 0, 1) := by decide +kernel
theorem dX5_run_55 : decode cX5_run 55 = .ok (.aload_n 2, 1) := by decide +kernel
theorem dX5_run_56 : decode cX5_run 56 = .ok (.invokevirtual 41, 3) := by decide +kernel
theorem dX5_run_59 : decode cX5_run 59 = .ok (.aload_n 0, 1) := by decide +kernel
theorem dX5_run_60 : decode cX5_run 60 = .ok (.getfield 22, 3) := by decide +kernel
theorem dX5_run_63 : decode cX5_run 63 = .ok (.getfield 45, 3) := by decide +kernel
theorem dX5_run_66 : decode cX5_run 66 = .ok (.aload_n 1, 1) := by decide +kernel
theorem dX5_run_67 : decode cX5_run 67 = .ok (.getfield 51, 3) := by decide +kernel
theorem dX5_run_70 : decode cX5_run 70 = .ok (.aload_n 1, 1) := by decide +kernel
theorem dX5_run_71 : decode cX5_run 71 = .ok (.getfield 54, 3) := by decide +kernel
theorem dX5_run_74 : decode cX5_run 74 = .ok (.iload 4, 2) := by decide +kernel
theorem dX5_run_76 : decode cX5_run 76 = .ok (.iaload, 1) := by decide +kernel
theorem dX5_run_77 : decode cX5_run 77 = .ok (.aload_n 0, 1) := by decide +kernel
theorem dX5_run_78 : decode cX5_run 78 = .ok (.getfield 9, 3) := by decide +kernel
theorem dX5_run_81 : decode cX5_run 81 = .ok (.invokevirtual 57, 3) := by decide +kernel
theorem dX5_run_84 : decode cX5_run 84 = .ok (.iconst 1, 1) := by decide +kernel
theorem dX5_run_85 : decode cX5_run 85 = .ok (.if_icmp .eq 6, 3) := by decide +kernel
theorem dX5_run_88 : decode cX5_run 88 = .ok (.goto 138, 3) := by decide +kernel
theorem dX5_run_91 : decode cX5_run 91 = .ok (.aload_n 0, 1) := by decide +kernel
theorem dX5_run_92 : decode cX5_run 92 = .ok (.getfield 22, 3) := by decide +kernel
theorem dX5_run_95 : decode cX5_run 95 = .ok (.getfield 45, 3) := by decide +kernel
theorem dX5_run_98 : decode cX5_run 98 = .ok (.aload_n 1, 1) := by decide +kernel
theorem dX5_run_99 : decode cX5_run 99 = .ok (.getfield 51, 3) := by decide +kernel
theorem dX5_run_102 : decode cX5_run 102 = .ok (.aload_n 1, 1) := by decide +kernel
theorem dX5_run_103 : decode cX5_run 103 = .ok (.getfield 63, 3) := by decide +kernel
theorem dX5_run_106 : decode cX5_run 106 = .ok (.iload 4, 2) := by decide +kernel
theorem dX5_run_108 : decode cX5_run 108 = .ok (.iaload, 1) := by decide +kernel
theorem dX5_run_109 : decode cX5_run 109 = .ok (.aload_n 0, 1) := by decide +kernel
theorem dX5_run_110 : decode cX5_run 110 = .ok (.getfield 9, 3) := by decide +kernel
theorem dX5_run_113 : decode cX5_run 113 = .ok (.invokevirtual 57, 3) := by decide +kernel
theorem dX5_run_116 : decode cX5_run 116 = .ok (.istore 6, 2) := by decide +kernel
theorem dX5_run_118 : decode cX5_run 118 = .ok (.aload_n 0, 1) := by decide +kernel
theorem dX5_run_119 : decode cX5_run 119 = .ok (.getfield 22, 3) := by decide +kernel
theorem dX5_run_122 : decode cX5_run 122 = .ok (.getfield 45, 3) := by decide +kernel
theorem dX5_run_125 : decode cX5_run 125 = .ok (.aload_n 1, 1) := by decide +kernel
theorem dX5_run_126 : decode cX5_run 126 = .ok (.getfield 51, 3) := by decide +kernel
theorem dX5_run_129 : decode cX5_run 129 = .ok (.aload_n 1, 1) := by decide +kernel
theorem dX5_run_130 : decode cX5_run 130 = .ok (.getfield 66, 3) := by decide +kernel
theorem dX5_run_133 : decode cX5_run 133 = .ok (.iload 4, 2) := by decide +kernel
theorem dX5_run_135 : decode cX5_run 135 = .ok (.iaload, 1) := by decide +kernel
theorem dX5_run_136 : decode cX5_run 136 = .ok (.aload_n 0, 1) := by decide +kernel
theorem dX5_run_137 : decode cX5_run 137 = .ok (.getfield 9, 3) := by decide +kernel
theorem dX5_run_140 : decode cX5_run 140 = .ok (.invokevirtual 57, 3) := by decide +kernel
theorem dX5_run_143 : decode cX5_run 143 = .ok (.istore 7, 2) := by decide +kernel
theorem dX5_run_145 : decode cX5_run 145 = .ok (.iload 6, 2) := by decide +kernel
theorem dX5_run_147 : decode cX5_run 147 = .ok (.ldc 69, 2) := by decide +kernel
theorem dX5_run_149 : decode cX5_run 149 = .ok (.if_icmp .eq 10, 3) := by decide +kernel
theorem dX5_run_152 : decode cX5_run 152 = .ok (.iload 7, 2) := by decide +kernel
theorem dX5_run_154 : decode cX5_run 154 = .ok (.ldc 69, 2) := by decide +kernel
theorem dX5_run_156 : decode cX5_run 156 = .ok (.if_icmp .ne 6, 3) := by decide +kernel
theorem dX5_run_159 : decode cX5_run 159 = .ok (.iload 4, 2) := by decide +kernel
theorem dX5_run_161 : decode cX5_run 161 = .ok (.ireturn, 1) := by decide +kernel
theorem dX5_run_162 : decode cX5_run 162 = .ok (.aload_n 0, 1) := by decide +kernel
theorem dX5_run_163 : decode cX5_run 163 = .ok (.getfield 26, 3) := by decide +kernel
theorem dX5_run_166 : decode cX5_run 166 = .ok (.aload_n 2, 1) := by decide +kernel
theorem dX5_run_167 : decode cX5_run 167 = .ok (.aload_n 3, 1) := by decide +kernel
theorem dX5_run_168 : decode cX5_run 168 = .ok (.aload_n 1, 1) := by decide +kernel
theorem dX5_run_169 : decode cX5_run 169 = .ok (.getfield 35, 3) := by decide +kernel
theorem dX5_run_172 : decode cX5_run 172 = .ok (.iload 4, 2) := by decide +kernel
theorem dX5_run_174 : decode cX5_run 174 = .ok (.iaload, 1) := by decide +kernel
theorem dX5_run_175 : decode cX5_run 175 = .ok (.iload 6, 2) := by decide +kernel
theorem dX5_run_177 : decode cX5_run 177 = .ok (.iload 7, 2) := by decide +kernel
theorem dX5_run_179 : decode cX5_run 179 = .ok (.invokevirtual 70, 3) := by decide +kernel
theorem dX5_run_182 : decode cX5_run 182 = .ok (.istore 8, 2) := by decide +kernel
theorem dX5_run_184 : decode cX5_run 184 = .ok (.iload 8, 2) := by decide +kernel
theorem dX5_run_186 : decode cX5_run 186 = .ok (.ifCond .ge 6, 3) := by decide +kernel
theorem dX5_run_189 : decode cX5_run 189 = .ok (.iload 4, 2) := by decide +kernel
theorem dX5_run_191 : decode cX5_run 191 = .ok (.ireturn, 1) := by decide +kernel
theorem dX5_run_192 : decode cX5_run 192 = .ok (.aload_n 0, 1) := by decide +kernel
theorem dX5_run_193 : decode cX5_run 193 = .ok (.dup, 1) := by decide +kernel
theorem dX5_run_194 : decode cX5_run 194 = .ok (.getfield 19, 3) := by decide +kernel
theorem dX5_run_197 : decode cX5_run 197 = .ok (.iconst 1, 1) := by decide +kernel
theorem dX5_run_198 : decode cX5_run 198 = .ok (.iadd, 1) := by decide +kernel
theorem dX5_run_199 : decode cX5_run 199 = .ok (.putfield 19, 3) := by decide +kernel
theorem dX5_run_202 : decode cX5_run 202 = .ok (.aload_n 0, 1) := by decide +kernel
theorem dX5_run_203 : decode cX5_run 203 = .ok (.aload_n 1, 1) := by decide +kernel
theorem dX5_run_204 : decode cX5_run 204 = .ok (.getfield 35, 3) := by decide +kernel
theorem dX5_run_207 : decode cX5_run 207 = .ok (.iload 4, 2) := by decide +kernel
theorem dX5_run_209 : decode cX5_run 209 = .ok (.iaload, 1) := by decide +kernel
theorem dX5_run_210 : decode cX5_run 210 = .ok (.iconst 3, 1) := by decide +kernel
theorem dX5_run_211 : decode cX5_run 211 = .ok (.if_icmp .ne 8, 3) := by decide +kernel
theorem dX5_run_214 : decode cX5_run 214 = .ok (.iload 8, 2) := by decide +kernel
theorem dX5_run_216 : decode cX5_run 216 = .ok (.goto 7, 3) := by decide +kernel
theorem dX5_run_219 : decode cX5_run 219 = .ok (.aload_n 0, 1) := by decide +kernel
theorem dX5_run_220 : decode cX5_run 220 = .ok (.getfield 15, 3) := by decide +kernel
theorem dX5_run_223 : decode cX5_run 223 = .ok (.putfield 15, 3) := by decide +kernel
theorem dX5_run_226 : decode cX5_run 226 = .ok (.iinc 5 1, 3) := by decide +kernel
theorem dX5_run_229 : decode cX5_run 229 = .ok (.goto (-194), 3) := by decide +kernel
theorem dX5_run_232 : decode cX5_run 232 = .ok (.iinc 4 1, 3) := by decide +kernel
theorem dX5_run_235 : decode cX5_run 235 = .ok (.goto (-222), 3) := by decide +kernel
theorem dX5_run_238 : decode cX5_run 238 = .ok (.iconst (-1), 1) := by decide +kernel
theorem dX5_run_239 : decode cX5_run 239 = .ok (.ireturn, 1) := by decide +kernel
theorem dX5_setWords_0 : decode cX5_setWords 0 = .ok (.aload_n 0, 1) := by decide +kernel
theorem dX5_setWords_1 : decode cX5_setWords 1 = .ok (.getfield 9, 3) := by decide +kernel
theorem dX5_setWords_4 : decode cX5_setWords 4 = .ok (.iconst 0, 1) := by decide +kernel
theorem dX5_setWords_5 : decode cX5_setWords 5 = .ok (.aload_n 1, 1) := by decide +kernel
theorem dX5_setWords_6 : decode cX5_setWords 6 = .ok (.getfield 76, 3) := by decide +kernel
theorem dX5_setWords_9 : decode cX5_setWords 9 = .ok (.iconst 0, 1) := by decide +kernel
theorem dX5_setWords_10 : decode cX5_setWords 10 = .ok (.iaload, 1) := by decide +kernel
theorem dX5_setWords_11 : decode cX5_setWords 11 = .ok (.iastore, 1) := by decide +kernel
theorem dX5_setWords_12 : decode cX5_setWords 12 = .ok (.aload_n 0, 1) := by decide +kernel
theorem dX5_setWords_13 : decode cX5_setWords 13 = .ok (.getfield 9, 3) := by decide +kernel
theorem dX5_setWords_16 : decode cX5_setWords 16 = .ok (.iconst 1, 1) := by decide +kernel
theorem dX5_setWords_17 : decode cX5_setWords 17 = .ok (.aload_n 0, 1) := by decide +kernel
theorem dX5_setWords_18 : decode cX5_setWords 18 = .ok (.getfield 19, 3) := by decide +kernel
theorem dX5_setWords_21 : decode cX5_setWords 21 = .ok (.iastore, 1) := by decide +kernel
theorem dX5_setWords_22 : decode cX5_setWords 22 = .ok (.aload_n 0, 1) := by decide +kernel
theorem dX5_setWords_23 : decode cX5_setWords 23 = .ok (.getfield 9, 3) := by decide +kernel
theorem dX5_setWords_26 : decode cX5_setWords 26 = .ok (.iconst 2, 1) := by decide +kernel
theorem dX5_setWords_27 : decode cX5_setWords 27 = .ok (.aload_n 0, 1) := by decide +kernel
theorem dX5_setWords_28 : decode cX5_setWords 28 = .ok (.getfield 15, 3) := by decide +kernel
theorem dX5_setWords_31 : decode cX5_setWords 31 = .ok (.iastore, 1) := by decide +kernel
theorem dX5_setWords_32 : decode cX5_setWords 32 = .ok (.aload_n 0, 1) := by decide +kernel
theorem dX5_setWords_33 : decode cX5_setWords 33 = .ok (.getfield 9, 3) := by decide +kernel
theorem dX5_setWords_36 : decode cX5_setWords 36 = .ok (.iconst 3, 1) := by decide +kernel
theorem dX5_setWords_37 : decode cX5_setWords 37 = .ok (.aload_n 0, 1) := by decide +kernel
theorem dX5_setWords_38 : decode cX5_setWords 38 = .ok (.getfield 22, 3) := by decide +kernel
theorem dX5_setWords_41 : decode cX5_setWords 41 = .ok (.aload_n 1, 1) := by decide +kernel
theorem dX5_setWords_42 : decode cX5_setWords 42 = .ok (.iconst 0, 1) := by decide +kernel
theorem dX5_setWords_43 : decode cX5_setWords 43 = .ok (.invokevirtual 81, 3) := by decide +kernel
theorem dX5_setWords_46 : decode cX5_setWords 46 = .ok (.iastore, 1) := by decide +kernel
theorem dX5_setWords_47 : decode cX5_setWords 47 = .ok (.aload_n 0, 1) := by decide +kernel
theorem dX5_setWords_48 : decode cX5_setWords 48 = .ok (.getfield 9, 3) := by decide +kernel
theorem dX5_setWords_51 : decode cX5_setWords 51 = .ok (.iconst 4, 1) := by decide +kernel
theorem dX5_setWords_52 : decode cX5_setWords 52 = .ok (.aload_n 1, 1) := by decide +kernel
theorem dX5_setWords_53 : decode cX5_setWords 53 = .ok (.invokevirtual 85, 3) := by decide +kernel
theorem dX5_setWords_56 : decode cX5_setWords 56 = .ok (.iastore, 1) := by decide +kernel
theorem dX5_setWords_57 : decode cX5_setWords 57 = .ok (.iconst 0, 1) := by decide +kernel
theorem dX5_setWords_58 : decode cX5_setWords 58 = .ok (.istore_n 2, 1) := by decide +kernel
theorem dX5_setWords_59 : decode cX5_setWords 59 = .ok (.iload_n 2, 1) := by decide +kernel
theorem dX5_setWords_60 : decode cX5_setWords 60 = .ok (.bipush 6, 2) := by decide +kernel
theorem dX5_setWords_62 : decode cX5_setWords 62 = .ok (.if_icmp .ge 63, 3) := by decide +kernel
theorem dX5_setWords_65 : decode cX5_setWords 65 = .ok (.aload_n 1, 1) := by decide +kernel
theorem dX5_setWords_66 : decode cX5_setWords 66 = .ok (.iload_n 2, 1) := by decide +kernel
theorem dX5_setWords_67 : decode cX5_setWords 67 = .ok (.invokevirtual 89, 3) := by decide +kernel
theorem dX5_setWords_70 : decode cX5_setWords 70 = .ok (.istore_n 3, 1) := by decide +kernel
theorem dX5_setWords_71 : decode cX5_setWords 71 = .ok (.aload_n 0, 1) := by decide +kernel
theorem dX5_setWords_72 : decode cX5_setWords 72 = .ok (.getfield 9, 3) := by decide +kernel
theorem dX5_setWords_75 : decode cX5_setWords 75 = .ok (.iconst 5, 1) := by decide +kernel
theorem dX5_setWords_76 : decode cX5_setWords 76 = .ok (.iload_n 2, 1) := by decide +kernel
theorem dX5_setWords_77 : decode cX5_setWords 77 = .ok (.iadd, 1) := by decide +kernel
theorem dX5_setWords_78 : decode cX5_setWords 78 = .ok (.iload_n 3, 1) := by decide +kernel
theorem dX5_setWords_79 : decode cX5_setWords 79 = .ok (.ifCond .eq 12, 3) := by decide +kernel
theorem dX5_setWords_82 : decode cX5_setWords 82 = .ok (.aload_n 1, 1) := by decide +kernel
theorem dX5_setWords_83 : decode cX5_setWords 83 = .ok (.getfield 93, 3) := by decide +kernel
theorem dX5_setWords_86 : decode cX5_setWords 86 = .ok (.iload_n 2, 1) := by decide +kernel
theorem dX5_setWords_87 : decode cX5_setWords 87 = .ok (.iaload, 1) := by decide +kernel
theorem dX5_setWords_88 : decode cX5_setWords 88 = .ok (.goto 4, 3) := by decide +kernel
theorem dX5_setWords_91 : decode cX5_setWords 91 = .ok (.iconst (-1), 1) := by decide +kernel
theorem dX5_setWords_92 : decode cX5_setWords 92 = .ok (.iastore, 1) := by decide +kernel
theorem dX5_setWords_93 : decode cX5_setWords 93 = .ok (.aload_n 0, 1) := by decide +kernel
theorem dX5_setWords_94 : decode cX5_setWords 94 = .ok (.getfield 9, 3) := by decide +kernel
theorem dX5_setWords_97 : decode cX5_setWords 97 = .ok (.bipush 11, 2) := by decide +kernel
theorem dX5_setWords_99 : decode cX5_setWords 99 = .ok (.iload_n 2, 1) := by decide +kernel
theorem dX5_setWords_100 : decode cX5_setWords 100 = .ok (.iadd, 1) := by decide +kernel
theorem dX5_setWords_101 : decode cX5_setWords 101 = .ok (.iload_n 3, 1) := by decide +kernel
theorem dX5_setWords_102 : decode cX5_setWords 102 = .ok (.ifCond .eq 15, 3) := by decide +kernel
theorem dX5_setWords_105 : decode cX5_setWords 105 = .ok (.aload_n 1, 1) := by decide +kernel
theorem dX5_setWords_106 : decode cX5_setWords 106 = .ok (.getfield 96, 3) := by decide +kernel
theorem dX5_setWords_109 : decode cX5_setWords 109 = .ok (.iload_n 2, 1) := by decide +kernel
theorem dX5_setWords_110 : decode cX5_setWords 110 = .ok (.iaload, 1) := by decide +kernel
theorem dX5_setWords_111 : decode cX5_setWords 111 = .ok (.invokestatic 99, 3) := by decide +kernel
theorem dX5_setWords_114 : decode cX5_setWords 114 = .ok (.goto 4, 3) := by decide +kernel
theorem dX5_setWords_117 : decode cX5_setWords 117 = .ok (.iconst (-1), 1) := by decide +kernel
theorem dX5_setWords_118 : decode cX5_setWords 118 = .ok (.iastore, 1) := by decide +kernel
theorem dX5_setWords_119 : decode cX5_setWords 119 = .ok (.iinc 2 1, 3) := by decide +kernel
theorem dX5_setWords_122 : decode cX5_setWords 122 = .ok (.goto (-63), 3) := by decide +kernel
theorem dX5_setWords_125 : decode cX5_setWords 125 = .ok (.return_, 1) := by decide +kernel
theorem dX6_init_0 : decode cX6_init 0 = .ok (.aload_n 0, 1) := by decide +kernel
theorem dX6_init_1 : decode cX6_init 1 = .ok (.invokespecial 3, 3) := by decide +kernel
theorem dX6_init_4 : decode cX6_init 4 = .ok (.aload_n 0, 1) := by decide +kernel
theorem dX6_init_5 : decode cX6_init 5 = .ok (.bipush 6, 2) := by decide +kernel
theorem dX6_init_7 : decode cX6_init 7 = .ok (.newarray .int, 2) := by decide +kernel
theorem dX6_init_9 : decode cX6_init 9 = .ok (.putfield 9, 3) := by decide +kernel
theorem dX6_init_12 : decode cX6_init 12 = .ok (.aload_n 0, 1) := by decide +kernel
theorem dX6_init_13 : decode cX6_init 13 = .ok (.bipush 6, 2) := by decide +kernel
theorem dX6_init_15 : decode cX6_init 15 = .ok (.newarray .int, 2) := by decide +kernel
theorem dX6_init_17 : decode cX6_init 17 = .ok (.putfield 15, 3) := by decide +kernel
theorem dX6_init_20 : decode cX6_init 20 = .ok (.aload_n 0, 1) := by decide +kernel
theorem dX6_init_21 : decode cX6_init 21 = .ok (.bipush 6, 2) := by decide +kernel
theorem dX6_init_23 : decode cX6_init 23 = .ok (.newarray .int, 2) := by decide +kernel
theorem dX6_init_25 : decode cX6_init 25 = .ok (.putfield 18, 3) := by decide +kernel
theorem dX6_init_28 : decode cX6_init 28 = .ok (.aload_n 0, 1) := by decide +kernel
theorem dX6_init_29 : decode cX6_init 29 = .ok (.bipush 6, 2) := by decide +kernel
theorem dX6_init_31 : decode cX6_init 31 = .ok (.newarray .int, 2) := by decide +kernel
theorem dX6_init_33 : decode cX6_init 33 = .ok (.putfield 21, 3) := by decide +kernel
theorem dX6_init_36 : decode cX6_init 36 = .ok (.aload_n 0, 1) := by decide +kernel
theorem dX6_init_37 : decode cX6_init 37 = .ok (.iconst 3, 1) := by decide +kernel
theorem dX6_init_38 : decode cX6_init 38 = .ok (.newarray .int, 2) := by decide +kernel
theorem dX6_init_40 : decode cX6_init 40 = .ok (.dup, 1) := by decide +kernel
theorem dX6_init_41 : decode cX6_init 41 = .ok (.iconst 0, 1) := by decide +kernel
theorem dX6_init_42 : decode cX6_init 42 = .ok (.iconst 0, 1) := by decide +kernel
theorem dX6_init_43 : decode cX6_init 43 = .ok (.iastore, 1) := by decide +kernel
theorem dX6_init_44 : decode cX6_init 44 = .ok (.dup, 1) := by decide +kernel
theorem dX6_init_45 : decode cX6_init 45 = .ok (.iconst 1, 1) := by decide +kernel
theorem dX6_init_46 : decode cX6_init 46 = .ok (.iconst 1, 1) := by decide +kernel
theorem dX6_init_47 : decode cX6_init 47 = .ok (.iastore, 1) := by decide +kernel
theorem dX6_init_48 : decode cX6_init 48 = .ok (.dup, 1) := by decide +kernel
theorem dX6_init_49 : decode cX6_init 49 = .ok (.iconst 2, 1) := by decide +kernel
theorem dX6_init_50 : decode cX6_init 50 = .ok (.iconst 0, 1) := by decide +kernel
theorem dX6_init_51 : decode cX6_init 51 = .ok (.iastore, 1) := by decide +kernel
theorem dX6_init_52 : decode cX6_init 52 = .ok (.putfield 24, 3) := by decide +kernel
theorem dX6_init_55 : decode cX6_init 55 = .ok (.aload_n 0, 1) := by decide +kernel
theorem dX6_init_56 : decode cX6_init 56 = .ok (.bipush 6, 2) := by decide +kernel
theorem dX6_init_58 : decode cX6_init 58 = .ok (.anewarray 27, 3) := by decide +kernel
theorem dX6_init_61 : decode cX6_init 61 = .ok (.putfield 29, 3) := by decide +kernel
theorem dX6_init_64 : decode cX6_init 64 = .ok (.aload_n 0, 1) := by decide +kernel
theorem dX6_init_65 : decode cX6_init 65 = .ok (.bipush 6, 2) := by decide +kernel
theorem dX6_init_67 : decode cX6_init 67 = .ok (.newarray .int, 2) := by decide +kernel
theorem dX6_init_69 : decode cX6_init 69 = .ok (.putfield 33, 3) := by decide +kernel
theorem dX6_init_72 : decode cX6_init 72 = .ok (.aload_n 0, 1) := by decide +kernel
theorem dX6_init_73 : decode cX6_init 73 = .ok (.bipush 6, 2) := by decide +kernel
theorem dX6_init_75 : decode cX6_init 75 = .ok (.newarray .boolean, 2) := by decide +kernel
theorem dX6_init_77 : decode cX6_init 77 = .ok (.putfield 36, 3) := by decide +kernel
theorem dX6_init_80 : decode cX6_init 80 = .ok (.aload_n 0, 1) := by decide +kernel
theorem dX6_init_81 : decode cX6_init 81 = .ok (.iconst 0, 1) := by decide +kernel
theorem dX6_init_82 : decode cX6_init 82 = .ok (.putfield 40, 3) := by decide +kernel
theorem dX6_init_85 : decode cX6_init 85 = .ok (.aload_n 0, 1) := by decide +kernel
theorem dX6_init_86 : decode cX6_init 86 = .ok (.iconst 0, 1) := by decide +kernel
theorem dX6_init_87 : decode cX6_init 87 = .ok (.putfield 44, 3) := by decide +kernel
theorem dX6_init_90 : decode cX6_init 90 = .ok (.aload_n 0, 1) := by decide +kernel
theorem dX6_init_91 : decode cX6_init 91 = .ok (.iconst 0, 1) := by decide +kernel
theorem dX6_init_92 : decode cX6_init 92 = .ok (.putfield 47, 3) := by decide +kernel
theorem dX6_init_95 : decode cX6_init 95 = .ok (.aload_n 0, 1) := by decide +kernel
theorem dX6_init_96 : decode cX6_init 96 = .ok (.iconst (-1), 1) := by decide +kernel
theorem dX6_init_97 : decode cX6_init 97 = .ok (.putfield 50, 3) := by decide +kernel
theorem dX6_init_100 : decode cX6_init 100 = .ok (.aload_n 0, 1) := by decide +kernel
theorem dX6_init_101 : decode cX6_init 101 = .ok (.iconst 0, 1) := by decide +kernel
theorem dX6_init_102 : decode cX6_init 102 = .ok (.putfield 53, 3) := by decide +kernel
theorem dX6_init_105 : decode cX6_init 105 = .ok (.return_, 1) := by decide +kernel
theorem dX6_become_0 : decode cX6_become 0 = .ok (.iconst 0, 1) := by decide +kernel
theorem dX6_become_1 : decode cX6_become 1 = .ok (.istore_n 2, 1) := by decide +kernel
theorem dX6_become_2 : decode cX6_become 2 = .ok (.iload_n 2, 1) := by decide +kernel
theorem dX6_become_3 : decode cX6_become 3 = .ok (.bipush 6, 2) := by decide +kernel
theorem dX6_become_5 : decode cX6_become 5 = .ok (.if_icmp .ge 57, 3) := by decide +kernel
theorem dX6_become_8 : decode cX6_become 8 = .ok (.aload_n 0, 1) := by decide +kernel
theorem dX6_become_9 : decode cX6_become 9 = .ok (.getfield 9, 3) := by decide +kernel
theorem dX6_become_12 : decode cX6_become 12 = .ok (.iload_n 2, 1) := by decide +kernel
theorem dX6_become_13 : decode cX6_become 13 = .ok (.aload_n 1, 1) := by decide +kernel
theorem dX6_become_14 : decode cX6_become 14 = .ok (.getfield 9, 3) := by decide +kernel
theorem dX6_become_17 : decode cX6_become 17 = .ok (.iload_n 2, 1) := by decide +kernel
theorem dX6_become_18 : decode cX6_become 18 = .ok (.iaload, 1) := by decide +kernel
theorem dX6_become_19 : decode cX6_become 19 = .ok (.iastore, 1) := by decide +kernel
theorem dX6_become_20 : decode cX6_become 20 = .ok (.aload_n 0, 1) := by decide +kernel
theorem dX6_become_21 : decode cX6_become 21 = .ok (.getfield 15, 3) := by decide +kernel
theorem dX6_become_24 : decode cX6_become 24 = .ok (.iload_n 2, 1) := by decide +kernel
theorem dX6_become_25 : decode cX6_become 25 = .ok (.aload_n 1, 1) := by decide +kernel
theorem dX6_become_26 : decode cX6_become 26 = .ok (.getfield 15, 3) := by decide +kernel
theorem dX6_become_29 : decode cX6_become 29 = .ok (.iload_n 2, 1) := by decide +kernel
theorem dX6_become_30 : decode cX6_become 30 = .ok (.iaload, 1) := by decide +kernel
theorem dX6_become_31 : decode cX6_become 31 = .ok (.iastore, 1) := by decide +kernel
theorem dX6_become_32 : decode cX6_become 32 = .ok (.aload_n 0, 1) := by decide +kernel
theorem dX6_become_33 : decode cX6_become 33 = .ok (.getfield 18, 3) := by decide +kernel
theorem dX6_become_36 : decode cX6_become 36 = .ok (.iload_n 2, 1) := by decide +kernel
theorem dX6_become_37 : decode cX6_become 37 = .ok (.aload_n 1, 1) := by decide +kernel
theorem dX6_become_38 : decode cX6_become 38 = .ok (.getfield 18, 3) := by decide +kernel
theorem dX6_become_41 : decode cX6_become 41 = .ok (.iload_n 2, 1) := by decide +kernel
theorem dX6_become_42 : decode cX6_become 42 = .ok (.iaload, 1) := by decide +kernel
theorem dX6_become_43 : decode cX6_become 43 = .ok (.iastore, 1) := by decide +kernel
theorem dX6_become_44 : decode cX6_become 44 = .ok (.aload_n 0, 1) := by decide +kernel
theorem dX6_become_45 : decode cX6_become 45 = .ok (.getfield 21, 3) := by decide +kernel
theorem dX6_become_48 : decode cX6_become 48 = .ok (.iload_n 2, 1) := by decide +kernel
theorem dX6_become_49 : decode cX6_become 49 = .ok (.aload_n 1, 1) := by decide +kernel
theorem dX6_become_50 : decode cX6_become 50 = .ok (.getfield 21, 3) := by decide +kernel
theorem dX6_become_53 : decode cX6_become 53 = .ok (.iload_n 2, 1) := by decide +kernel
theorem dX6_become_54 : decode cX6_become 54 = .ok (.iaload, 1) := by decide +kernel
theorem dX6_become_55 : decode cX6_become 55 = .ok (.iastore, 1) := by decide +kernel
theorem dX6_become_56 : decode cX6_become 56 = .ok (.iinc 2 1, 3) := by decide +kernel
theorem dX6_become_59 : decode cX6_become 59 = .ok (.goto (-57), 3) := by decide +kernel
theorem dX6_become_62 : decode cX6_become 62 = .ok (.iconst 0, 1) := by decide +kernel
theorem dX6_become_63 : decode cX6_become 63 = .ok (.istore_n 2, 1) := by decide +kernel
theorem dX6_become_64 : decode cX6_become 64 = .ok (.iload_n 2, 1) := by decide +kernel
theorem dX6_become_65 : decode cX6_become 65 = .ok (.aload_n 0, 1) := by decide +kernel
theorem dX6_become_66 : decode cX6_become 66 = .ok (.getfield 24, 3) := by decide +kernel
theorem dX6_become_69 : decode cX6_become 69 = .ok (.arraylength, 1) := by decide +kernel
theorem dX6_become_70 : decode cX6_become 70 = .ok (.if_icmp .ge 21, 3) := by decide +kernel
theorem dX6_become_73 : decode cX6_become 73 = .ok (.aload_n 0, 1) := by decide +kernel
theorem dX6_become_74 : decode cX6_become 74 = .ok (.getfield 24, 3) := by decide +kernel
theorem dX6_become_77 : decode cX6_become 77 = .ok (.iload_n 2, 1) := by decide +kernel
theorem dX6_become_78 : decode cX6_become 78 = .ok (.aload_n 1, 1) := by decide +kernel
theorem dX6_become_79 : decode cX6_become 79 = .ok (.getfield 24, 3) := by decide +kernel
theorem dX6_become_82 : decode cX6_become 82 = .ok (.iload_n 2, 1) := by decide +kernel
theorem dX6_become_83 : decode cX6_become 83 = .ok (.iaload, 1) := by decide +kernel
theorem dX6_become_84 : decode cX6_become 84 = .ok (.iastore, 1) := by decide +kernel
theorem dX6_become_85 : decode cX6_become 85 = .ok (.iinc 2 1, 3) := by decide +kernel
theorem dX6_become_88 : decode cX6_become 88 = .ok (.goto (-24), 3) := by decide +kernel
theorem dX6_become_91 : decode cX6_become 91 = .ok (.iconst 0, 1) := by decide +kernel
theorem dX6_become_92 : decode cX6_become 92 = .ok (.istore_n 2, 1) := by decide +kernel
theorem dX6_become_93 : decode cX6_become 93 = .ok (.iload_n 2, 1) := by decide +kernel
theorem dX6_become_94 : decode cX6_become 94 = .ok (.bipush 6, 2) := by decide +kernel
theorem dX6_become_96 : decode cX6_become 96 = .ok (.if_icmp .ge 21, 3) := by decide +kernel
theorem dX6_become_99 : decode cX6_become 99 = .ok (.aload_n 0, 1) := by decide +kernel
theorem dX6_become_100 : decode cX6_become 100 = .ok (.getfield 29, 3) := by decide +kernel
theorem dX6_become_103 : decode cX6_become 103 = .ok (.iload_n 2, 1) := by decide +kernel
theorem dX6_become_104 : decode cX6_become 104 = .ok (.aload_n 1, 1) := by decide +kernel
theorem dX6_become_105 : decode cX6_become 105 = .ok (.getfield 29, 3) := by decide +kernel
theorem dX6_become_108 : decode cX6_become 108 = .ok (.iload_n 2, 1) := by decide +kernel
theorem dX6_become_109 : decode cX6_become 109 = .ok (.aaload, 1) := by decide +kernel
theorem dX6_become_110 : decode cX6_become 110 = .ok (.aastore, 1) := by decide +kernel
theorem dX6_become_111 : decode cX6_become 111 = .ok (.iinc 2 1, 3) := by decide +kernel
theorem dX6_become_114 : decode cX6_become 114 = .ok (.goto (-21), 3) := by decide +kernel
theorem dX6_become_117 : decode cX6_become 117 = .ok (.iconst 0, 1) := by decide +kernel
theorem dX6_become_118 : decode cX6_become 118 = .ok (.istore_n 2, 1) := by decide +kernel
theorem dX6_become_119 : decode cX6_become 119 = .ok (.iload_n 2, 1) := by decide +kernel
theorem dX6_become_120 : decode cX6_become 120 = .ok (.bipush 6, 2) := by decide +kernel
theorem dX6_become_122 : decode cX6_become 122 = .ok (.if_icmp .ge 33, 3) := by decide +kernel
theorem dX6_become_125 : decode cX6_become 125 = .ok (.aload_n 0, 1) := by decide +kernel
theorem dX6_become_126 : decode cX6_become 126 = .ok (.getfield 33, 3) := by decide +kernel
theorem dX6_become_129 : decode cX6_become 129 = .ok (.iload_n 2, 1) := by decide +kernel
theorem dX6_become_130 : decode cX6_become 130 = .ok (.aload_n 1, 1) := by decide +kernel
theorem dX6_become_131 : decode cX6_become 131 = .ok (.getfield 33, 3) := by decide +kernel
theorem dX6_become_134 : decode cX6_become 134 = .ok (.iload_n 2, 1) := by decide +kernel
theorem dX6_become_135 : decode cX6_become 135 = .ok (.iaload, 1) := by decide +kernel
theorem dX6_become_136 : decode cX6_become 136 = .ok (.iastore, 1) := by decide +kernel
theorem dX6_become_137 : decode cX6_become 137 = .ok (.aload_n 0, 1) := by decide +kernel
theorem dX6_become_138 : decode cX6_become 138 = .ok (.getfield 36, 3) := by decide +kernel
theorem dX6_become_141 : decode cX6_become 141 = .ok (.iload_n 2, 1) := by decide +kernel
theorem dX6_become_142 : decode cX6_become 142 = .ok (.aload_n 1, 1) := by decide +kernel
theorem dX6_become_143 : decode cX6_become 143 = .ok (.getfield 36, 3) := by decide +kernel
theorem dX6_become_146 : decode cX6_become 146 = .ok (.iload_n 2, 1) := by decide +kernel
theorem dX6_become_147 : decode cX6_become 147 = .ok (.baload, 1) := by decide +kernel
theorem dX6_become_148 : decode cX6_become 148 = .ok (.bastore, 1) := by decide +kernel
theorem dX6_become_149 : decode cX6_become 149 = .ok (.iinc 2 1, 3) := by decide +kernel
theorem dX6_become_152 : decode cX6_become 152 = .ok (.goto (-33), 3) := by decide +kernel
theorem dX6_become_155 : decode cX6_become 155 = .ok (.aload_n 0, 1) := by decide +kernel
theorem dX6_become_156 : decode cX6_become 156 = .ok (.aload_n 1, 1) := by decide +kernel
theorem dX6_become_157 : decode cX6_become 157 = .ok (.getfield 40, 3) := by decide +kernel
theorem dX6_become_160 : decode cX6_become 160 = .ok (.putfield 40, 3) := by decide +kernel
theorem dX6_become_163 : decode cX6_become 163 = .ok (.aload_n 0, 1) := by decide +kernel
theorem dX6_become_164 : decode cX6_become 164 = .ok (.aload_n 1, 1) := by decide +kernel
theorem dX6_become_165 : decode cX6_become 165 = .ok (.getfield 44, 3) := by decide +kernel
theorem dX6_become_168 : decode cX6_become 168 = .ok (.putfield 44, 3) := by decide +kernel
theorem dX6_become_171 : decode cX6_become 171 = .ok (.aload_n 0, 1) := by decide +kernel
theorem dX6_become_172 : decode cX6_become 172 = .ok (.aload_n 1, 1) := by decide +kernel
theorem dX6_become_173 : decode cX6_become 173 = .ok (.getfield 47, 3) := by decide +kernel
theorem dX6_become_176 : decode cX6_become 176 = .ok (.putfield 47, 3) := by decide +kernel
theorem dX6_become_179 : decode cX6_become 179 = .ok (.aload_n 0, 1) := by decide +kernel
theorem dX6_become_180 : decode cX6_become 180 = .ok (.aload_n 1, 1) := by decide +kernel
theorem dX6_become_181 : decode cX6_become 181 = .ok (.getfield 50, 3) := by decide +kernel
theorem dX6_become_184 : decode cX6_become 184 = .ok (.putfield 50, 3) := by decide +kernel
theorem dX6_become_187 : decode cX6_become 187 = .ok (.aload_n 0, 1) := by decide +kernel
theorem dX6_become_188 : decode cX6_become 188 = .ok (.aload_n 1, 1) := by decide +kernel
theorem dX6_become_189 : decode cX6_become 189 = .ok (.getfield 53, 3) := by decide +kernel
theorem dX6_become_192 : decode cX6_become 192 = .ok (.putfield 53, 3) := by decide +kernel
theorem dX6_become_195 : decode cX6_become 195 = .ok (.return_, 1) := by decide +kernel
theorem dX6_canHold_0 : decode cX6_canHold 0 = .ok (.iload_n 0, 1) := by decide +kernel
theorem dX6_canHold_1 : decode cX6_canHold 1 = .ok (.iconst 1, 1) := by decide +kernel
theorem dX6_canHold_2 : decode cX6_canHold 2 = .ok (.if_icmp .lt 42, 3) := by decide +kernel
theorem dX6_canHold_5 : decode cX6_canHold 5 = .ok (.iload_n 0, 1) := by decide +kernel
theorem dX6_canHold_6 : decode cX6_canHold 6 = .ok (.bipush 12, 2) := by decide +kernel
theorem dX6_canHold_8 : decode cX6_canHold 8 = .ok (.if_icmp .gt 36, 3) := by decide +kernel
theorem dX6_canHold_11 : decode cX6_canHold 11 = .ok (.iload_n 1, 1) := by decide +kernel
theorem dX6_canHold_12 : decode cX6_canHold 12 = .ok (.ifCond .lt 32, 3) := by decide +kernel
theorem dX6_canHold_15 : decode cX6_canHold 15 = .ok (.iload_n 1, 1) := by decide +kernel
theorem dX6_canHold_16 : decode cX6_canHold 16 = .ok (.iconst 4, 1) := by decide +kernel
theorem dX6_canHold_17 : decode cX6_canHold 17 = .ok (.if_icmp .ge 27, 3) := by decide +kernel
theorem dX6_canHold_20 : decode cX6_canHold 20 = .ok (.iload_n 2, 1) := by decide +kernel
theorem dX6_canHold_21 : decode cX6_canHold 21 = .ok (.ifCond .lt 23, 3) := by decide +kernel
theorem dX6_canHold_24 : decode cX6_canHold 24 = .ok (.iload_n 2, 1) := by decide +kernel
theorem dX6_canHold_25 : decode cX6_canHold 25 = .ok (.iload_n 0, 1) := by decide +kernel
theorem dX6_canHold_26 : decode cX6_canHold 26 = .ok (.if_icmp .ge 18, 3) := by decide +kernel
theorem dX6_canHold_29 : decode cX6_canHold 29 = .ok (.iload_n 3, 1) := by decide +kernel
theorem dX6_canHold_30 : decode cX6_canHold 30 = .ok (.ifCond .lt 14, 3) := by decide +kernel
theorem dX6_canHold_33 : decode cX6_canHold 33 = .ok (.iload_n 3, 1) := by decide +kernel
theorem dX6_canHold_34 : decode cX6_canHold 34 = .ok (.iconst 1, 1) := by decide +kernel
theorem dX6_canHold_35 : decode cX6_canHold 35 = .ok (.iload_n 0, 1) := by decide +kernel
theorem dX6_canHold_36 : decode cX6_canHold 36 = .ok (.ishl, 1) := by decide +kernel
theorem dX6_canHold_37 : decode cX6_canHold 37 = .ok (.if_icmp .ge 7, 3) := by decide +kernel
theorem dX6_canHold_40 : decode cX6_canHold 40 = .ok (.iconst 1, 1) := by decide +kernel
theorem dX6_canHold_41 : decode cX6_canHold 41 = .ok (.goto 4, 3) := by decide +kernel
theorem dX6_canHold_44 : decode cX6_canHold 44 = .ok (.iconst 0, 1) := by decide +kernel
theorem dX6_canHold_45 : decode cX6_canHold 45 = .ok (.ireturn, 1) := by decide +kernel
theorem dX6_take_0 : decode cX6_take 0 = .ok (.aload_n 0, 1) := by decide +kernel
theorem dX6_take_1 : decode cX6_take 1 = .ok (.getfield 40, 3) := by decide +kernel
theorem dX6_take_4 : decode cX6_take 4 = .ok (.ifCond .lt 12, 3) := by decide +kernel
theorem dX6_take_7 : decode cX6_take 7 = .ok (.aload_n 0, 1) := by decide +kernel
theorem dX6_take_8 : decode cX6_take 8 = .ok (.getfield 40, 3) := by decide +kernel
theorem dX6_take_11 : decode cX6_take 11 = .ok (.bipush 6, 2) := by decide +kernel
theorem dX6_take_13 : decode cX6_take 13 = .ok (.if_icmp .lt 4, 3) := by decide +kernel
theorem dX6_take_16 : decode cX6_take 16 = .ok (.return_, 1) := by decide +kernel
theorem dX6_take_17 : decode cX6_take 17 = .ok (.aload_n 0, 1) := by decide +kernel
theorem dX6_take_18 : decode cX6_take 18 = .ok (.getfield 9, 3) := by decide +kernel
theorem dX6_take_21 : decode cX6_take 21 = .ok (.aload_n 0, 1) := by decide +kernel
theorem dX6_take_22 : decode cX6_take 22 = .ok (.getfield 40, 3) := by decide +kernel
theorem dX6_take_25 : decode cX6_take 25 = .ok (.iload_n 1, 1) := by decide +kernel
theorem dX6_take_26 : decode cX6_take 26 = .ok (.iastore, 1) := by decide +kernel
theorem dX6_take_27 : decode cX6_take 27 = .ok (.aload_n 0, 1) := by decide +kernel
theorem dX6_take_28 : decode cX6_take 28 = .ok (.getfield 15, 3) := by decide +kernel
theorem dX6_take_31 : decode cX6_take 31 = .ok (.aload_n 0, 1) := by decide +kernel
theorem dX6_take_32 : decode cX6_take 32 = .ok (.getfield 40, 3) := by decide +kernel
theorem dX6_take_35 : decode cX6_take 35 = .ok (.iload_n 2, 1) := by decide +kernel
theorem dX6_take_36 : decode cX6_take 36 = .ok (.iastore, 1) := by decide +kernel
theorem dX6_take_37 : decode cX6_take 37 = .ok (.aload_n 0, 1) := by decide +kernel
theorem dX6_take_38 : decode cX6_take 38 = .ok (.getfield 18, 3) := by decide +kernel
theorem dX6_take_41 : decode cX6_take 41 = .ok (.aload_n 0, 1) := by decide +kernel
theorem dX6_take_42 : decode cX6_take 42 = .ok (.getfield 40, 3) := by decide +kernel
theorem dX6_take_45 : decode cX6_take 45 = .ok (.iload_n 3, 1) := by decide +kernel
theorem dX6_take_46 : decode cX6_take 46 = .ok (.iastore, 1) := by decide +kernel
theorem dX6_take_47 : decode cX6_take 47 = .ok (.aload_n 0, 1) := by decide +kernel
theorem dX6_take_48 : decode cX6_take 48 = .ok (.getfield 21, 3) := by decide +kernel
theorem dX6_take_51 : decode cX6_take 51 = .ok (.aload_n 0, 1) := by decide +kernel
theorem dX6_take_52 : decode cX6_take 52 = .ok (.getfield 40, 3) := by decide +kernel
theorem dX6_take_55 : decode cX6_take 55 = .ok (.iload 4, 2) := by decide +kernel
theorem dX6_take_57 : decode cX6_take 57 = .ok (.iastore, 1) := by decide +kernel
theorem dX6_take_58 : decode cX6_take 58 = .ok (.aload_n 0, 1) := by decide +kernel
theorem dX6_take_59 : decode cX6_take 59 = .ok (.dup, 1) := by decide +kernel
theorem dX6_take_60 : decode cX6_take 60 = .ok (.getfield 40, 3) := by decide +kernel
theorem dX6_take_63 : decode cX6_take 63 = .ok (.iconst 1, 1) := by decide +kernel
theorem dX6_take_64 : decode cX6_take 64 = .ok (.iadd, 1) := by decide +kernel
theorem dX6_take_65 : decode cX6_take 65 = .ok (.putfield 40, 3) := by decide +kernel
theorem dX6_take_68 : decode cX6_take 68 = .ok (.return_, 1) := by decide +kernel
theorem dX6_has_0 : decode cX6_has 0 = .ok (.iload_n 1, 1) := by decide +kernel
theorem dX6_has_1 : decode cX6_has 1 = .ok (.ifCond .lt 21, 3) := by decide +kernel
theorem dX6_has_4 : decode cX6_has 4 = .ok (.iload_n 1, 1) := by decide +kernel
theorem dX6_has_5 : decode cX6_has 5 = .ok (.aload_n 0, 1) := by decide +kernel
theorem dX6_has_6 : decode cX6_has 6 = .ok (.getfield 40, 3) := by decide +kernel
theorem dX6_has_9 : decode cX6_has 9 = .ok (.if_icmp .ge 13, 3) := by decide +kernel
theorem dX6_has_12 : decode cX6_has 12 = .ok (.iload_n 1, 1) := by decide +kernel
theorem dX6_has_13 : decode cX6_has 13 = .ok (.bipush 6, 2) := by decide +kernel
theorem dX6_has_15 : decode cX6_has 15 = .ok (.if_icmp .ge 7, 3) := by decide +kernel
theorem dX6_has_18 : decode cX6_has 18 = .ok (.iconst 1, 1) := by decide +kernel
theorem dX6_has_19 : decode cX6_has 19 = .ok (.goto 4, 3) := by decide +kernel
theorem dX6_has_22 : decode cX6_has 22 = .ok (.iconst 0, 1) := by decide +kernel
theorem dX6_has_23 : decode cX6_has 23 = .ok (.ireturn, 1) := by decide +kernel
theorem dX6_hasBeat_0 : decode cX6_hasBeat 0 = .ok (.aload_n 0, 1) := by decide +kernel
theorem dX6_hasBeat_1 : decode cX6_hasBeat 1 = .ok (.iload_n 1, 1) := by decide +kernel
theorem dX6_hasBeat_2 : decode cX6_hasBeat 2 = .ok (.invokevirtual 56, 3) := by decide +kernel
theorem dX6_hasBeat_5 : decode cX6_hasBeat 5 = .ok (.ifCond .eq 21, 3) := by decide +kernel
theorem dX6_hasBeat_8 : decode cX6_hasBeat 8 = .ok (.iload_n 2, 1) := by decide +kernel
theorem dX6_hasBeat_9 : decode cX6_hasBeat 9 = .ok (.ifCond .lt 17, 3) := by decide +kernel
theorem dX6_hasBeat_12 : decode cX6_hasBeat 12 = .ok (.iload_n 2, 1) := by decide +kernel
theorem dX6_hasBeat_13 : decode cX6_hasBeat 13 = .ok (.aload_n 0, 1) := by decide +kernel
theorem dX6_hasBeat_14 : decode cX6_hasBeat 14 = .ok (.getfield 9, 3) := by decide +kernel
theorem dX6_hasBeat_17 : decode cX6_hasBeat 17 = .ok (.iload_n 1, 1) := by decide +kernel
theorem dX6_hasBeat_18 : decode cX6_hasBeat 18 = .ok (.iaload, 1) := by decide +kernel
theorem dX6_hasBeat_19 : decode cX6_hasBeat 19 = .ok (.if_icmp .ge 7, 3) := by decide +kernel
theorem dX6_hasBeat_22 : decode cX6_hasBeat 22 = .ok (.iconst 1, 1) := by decide +kernel
theorem dX6_hasBeat_23 : decode cX6_hasBeat 23 = .ok (.goto 4, 3) := by decide +kernel
theorem dX6_hasBeat_26 : decode cX6_hasBeat 26 = .ok (.iconst 0, 1) := by decide +kernel
theorem dX6_hasBeat_27 : decode cX6_hasBeat 27 = .ok (.ireturn, 1) := by decide +kernel
theorem dX6_hasAll_0 : decode cX6_hasAll 0 = .ok (.iload_n 1, 1) := by decide +kernel
theorem dX6_hasAll_1 : decode cX6_hasAll 1 = .ok (.ifCond .lt 17, 3) := by decide +kernel
theorem dX6_hasAll_4 : decode cX6_hasAll 4 = .ok (.iload_n 1, 1) := by decide +kernel
theorem dX6_hasAll_5 : decode cX6_hasAll 5 = .ok (.iconst 1, 1) := by decide +kernel
theorem dX6_hasAll_6 : decode cX6_hasAll 6 = .ok (.aload_n 0, 1) := by decide +kernel
theorem dX6_hasAll_7 : decode cX6_hasAll 7 = .ok (.getfield 40, 3) := by decide +kernel
theorem dX6_hasAll_10 : decode cX6_hasAll 10 = .ok (.ishl, 1) := by decide +kernel
theorem dX6_hasAll_11 : decode cX6_hasAll 11 = .ok (.if_icmp .ge 7, 3) := by decide +kernel
theorem dX6_hasAll_14 : decode cX6_hasAll 14 = .ok (.iconst 1, 1) := by decide +kernel
theorem dX6_hasAll_15 : decode cX6_hasAll 15 = .ok (.goto 4, 3) := by decide +kernel
theorem dX6_hasAll_18 : decode cX6_hasAll 18 = .ok (.iconst 0, 1) := by decide +kernel
theorem dX6_hasAll_19 : decode cX6_hasAll 19 = .ok (.ireturn, 1) := by decide +kernel
theorem dX6_hasPin_0 : decode cX6_hasPin 0 = .ok (.aload_n 0, 1) := by decide +kernel
theorem dX6_hasPin_1 : decode cX6_hasPin 1 = .ok (.iload_n 1, 1) := by decide +kernel
theorem dX6_hasPin_2 : decode cX6_hasPin 2 = .ok (.invokevirtual 56, 3) := by decide +kernel
theorem dX6_hasPin_5 : decode cX6_hasPin 5 = .ok (.ifCond .eq 34, 3) := by decide +kernel
theorem dX6_hasPin_8 : decode cX6_hasPin 8 = .ok (.iload_n 2, 1) := by decide +kernel
theorem dX6_hasPin_9 : decode cX6_hasPin 9 = .ok (.ifCond .lt 30, 3) := by decide +kernel
theorem dX6_hasPin_12 : decode cX6_hasPin 12 = .ok (.iload_n 2, 1) := by decide +kernel
theorem dX6_hasPin_13 : decode cX6_hasPin 13 = .ok (.aload_n 0, 1) := by decide +kernel
theorem dX6_hasPin_14 : decode cX6_hasPin 14 = .ok (.getfield 9, 3) := by decide +kernel
theorem dX6_hasPin_17 : decode cX6_hasPin 17 = .ok (.iload_n 1, 1) := by decide +kernel
theorem dX6_hasPin_18 : decode cX6_hasPin 18 = .ok (.iaload, 1) := by decide +kernel
theorem dX6_hasPin_19 : decode cX6_hasPin 19 = .ok (.if_icmp .ge 20, 3) := by decide +kernel
theorem dX6_hasPin_22 : decode cX6_hasPin 22 = .ok (.aload_n 0, 1) := by decide +kernel
theorem dX6_hasPin_23 : decode cX6_hasPin 23 = .ok (.getfield 21, 3) := by decide +kernel
theorem dX6_hasPin_26 : decode cX6_hasPin 26 = .ok (.iload_n 1, 1) := by decide +kernel
theorem dX6_hasPin_27 : decode cX6_hasPin 27 = .ok (.iaload, 1) := by decide +kernel
theorem dX6_hasPin_28 : decode cX6_hasPin 28 = .ok (.iload_n 2, 1) := by decide +kernel
theorem dX6_hasPin_29 : decode cX6_hasPin 29 = .ok (.ishr, 1) := by decide +kernel
theorem dX6_hasPin_30 : decode cX6_hasPin 30 = .ok (.iconst 1, 1) := by decide +kernel
theorem dX6_hasPin_31 : decode cX6_hasPin 31 = .ok (.iand, 1) := by decide +kernel
theorem dX6_hasPin_32 : decode cX6_hasPin 32 = .ok (.ifCond .eq 7, 3) := by decide +kernel
theorem dX6_hasPin_35 : decode cX6_hasPin 35 = .ok (.iconst 1, 1) := by decide +kernel
theorem dX6_hasPin_36 : decode cX6_hasPin 36 = .ok (.goto 4, 3) := by decide +kernel
theorem dX6_hasPin_39 : decode cX6_hasPin 39 = .ok (.iconst 0, 1) := by decide +kernel
theorem dX6_hasPin_40 : decode cX6_hasPin 40 = .ok (.ireturn, 1) := by decide +kernel
theorem dX6_isStopped_0 : decode cX6_isStopped 0 = .ok (.iload_n 1, 1) := by decide +kernel
theorem dX6_isStopped_1 : decode cX6_isStopped 1 = .ok (.ifCond .lt 24, 3) := by decide +kernel
theorem dX6_isStopped_4 : decode cX6_isStopped 4 = .ok (.iload_n 1, 1) := by decide +kernel
theorem dX6_isStopped_5 : decode cX6_isStopped 5 = .ok (.bipush 6, 2) := by decide +kernel
theorem dX6_isStopped_7 : decode cX6_isStopped 7 = .ok (.if_icmp .ge 18, 3) := by decide +kernel
theorem dX6_isStopped_10 : decode cX6_isStopped 10 = .ok (.aload_n 0, 1) := by decide +kernel
theorem dX6_isStopped_11 : decode cX6_isStopped 11 = .ok (.getfield 44, 3) := by decide +kernel
theorem dX6_isStopped_14 : decode cX6_isStopped 14 = .ok (.iload_n 1, 1) := by decide +kernel
theorem dX6_isStopped_15 : decode cX6_isStopped 15 = .ok (.ishr, 1) := by decide +kernel
theorem dX6_isStopped_16 : decode cX6_isStopped 16 = .ok (.iconst 1, 1) := by decide +kernel
theorem dX6_isStopped_17 : decode cX6_isStopped 17 = .ok (.iand, 1) := by decide +kernel
theorem dX6_isStopped_18 : decode cX6_isStopped 18 = .ok (.ifCond .eq 7, 3) := by decide +kernel
theorem dX6_isStopped_21 : decode cX6_isStopped 21 = .ok (.iconst 1, 1) := by decide +kernel
theorem dX6_isStopped_22 : decode cX6_isStopped 22 = .ok (.goto 4, 3) := by decide +kernel
theorem dX6_isStopped_25 : decode cX6_isStopped 25 = .ok (.iconst 0, 1) := by decide +kernel
theorem dX6_isStopped_26 : decode cX6_isStopped 26 = .ok (.ireturn, 1) := by decide +kernel
theorem dX6_beatIn_0 : decode cX6_beatIn 0 = .ok (.aload_n 0, 1) := by decide +kernel
theorem dX6_beatIn_1 : decode cX6_beatIn 1 = .ok (.iload_n 1, 1) := by decide +kernel
theorem dX6_beatIn_2 : decode cX6_beatIn 2 = .ok (.invokevirtual 56, 3) := by decide +kernel
theorem dX6_beatIn_5 : decode cX6_beatIn 5 = .ok (.ifCond .eq 13, 3) := by decide +kernel
theorem dX6_beatIn_8 : decode cX6_beatIn 8 = .ok (.aload_n 0, 1) := by decide +kernel
theorem dX6_beatIn_9 : decode cX6_beatIn 9 = .ok (.getfield 9, 3) := by decide +kernel
theorem dX6_beatIn_12 : decode cX6_beatIn 12 = .ok (.iload_n 1, 1) := by decide +kernel
theorem dX6_beatIn_13 : decode cX6_beatIn 13 = .ok (.iaload, 1) := by decide +kernel
theorem dX6_beatIn_14 : decode cX6_beatIn 14 = .ok (.iconst 1, 1) := by decide +kernel
theorem dX6_beatIn_15 : decode cX6_beatIn 15 = .ok (.if_icmp .ge 5, 3) := by decide +kernel
theorem dX6_beatIn_18 : decode cX6_beatIn 18 = .ok (.iconst 0, 1) := by decide +kernel
theorem dX6_beatIn_19 : decode cX6_beatIn 19 = .ok (.ireturn, 1) := by decide +kernel
theorem dX6_beatIn_20 : decode cX6_beatIn 20 = .ok (.aload_n 0, 1) := by decide +kernel
theorem dX6_beatIn_21 : decode cX6_beatIn 21 = .ok (.iload_n 1, 1) := by decide +kernel
theorem dX6_beatIn_22 : decode cX6_beatIn 22 = .ok (.invokevirtual 60, 3) := by decide +kernel
theorem dX6_beatIn_25 : decode cX6_beatIn 25 = .ok (.ifCond .eq 12, 3) := by decide +kernel
theorem dX6_beatIn_28 : decode cX6_beatIn 28 = .ok (.aload_n 0, 1) := by decide +kernel
theorem dX6_beatIn_29 : decode cX6_beatIn 29 = .ok (.getfield 18, 3) := by decide +kernel
theorem dX6_beatIn_32 : decode cX6_beatIn 32 = .ok (.iload_n 1, 1) := by decide +kernel
theorem dX6_beatIn_33 : decode cX6_beatIn 33 = .ok (.iaload, 1) := by decide +kernel
theorem dX6_beatIn_34 : decode cX6_beatIn 34 = .ok (.goto 18, 3) := by decide +kernel
theorem dX6_beatIn_37 : decode cX6_beatIn 37 = .ok (.aload_n 0, 1) := by decide +kernel
theorem dX6_beatIn_38 : decode cX6_beatIn 38 = .ok (.getfield 18, 3) := by decide +kernel
theorem dX6_beatIn_41 : decode cX6_beatIn 41 = .ok (.iload_n 1, 1) := by decide +kernel
theorem dX6_beatIn_42 : decode cX6_beatIn 42 = .ok (.iaload, 1) := by decide +kernel
theorem dX6_beatIn_43 : decode cX6_beatIn 43 = .ok (.iload_n 2, 1) := by decide +kernel
theorem dX6_beatIn_44 : decode cX6_beatIn 44 = .ok (.iadd, 1) := by decide +kernel
theorem dX6_beatIn_45 : decode cX6_beatIn 45 = .ok (.aload_n 0, 1) := by decide +kernel
theorem dX6_beatIn_46 : decode cX6_beatIn 46 = .ok (.getfield 9, 3) := by decide +kernel
theorem dX6_beatIn_49 : decode cX6_beatIn 49 = .ok (.iload_n 1, 1) := by decide +kernel
theorem dX6_beatIn_50 : decode cX6_beatIn 50 = .ok (.iaload, 1) := by decide +kernel
theorem dX6_beatIn_51 : decode cX6_beatIn 51 = .ok (.irem, 1) := by decide +kernel
theorem dX6_beatIn_52 : decode cX6_beatIn 52 = .ok (.ireturn, 1) := by decide +kernel
theorem dX6_strikesIn_0 : decode cX6_strikesIn 0 = .ok (.aload_n 0, 1) := by decide +kernel
theorem dX6_strikesIn_1 : decode cX6_strikesIn 1 = .ok (.iload_n 1, 1) := by decide +kernel
theorem dX6_strikesIn_2 : decode cX6_strikesIn 2 = .ok (.invokevirtual 60, 3) := by decide +kernel
theorem dX6_strikesIn_5 : decode cX6_strikesIn 5 = .ok (.ifCond .ne 21, 3) := by decide +kernel
theorem dX6_strikesIn_8 : decode cX6_strikesIn 8 = .ok (.aload_n 0, 1) := by decide +kernel
theorem dX6_strikesIn_9 : decode cX6_strikesIn 9 = .ok (.iload_n 1, 1) := by decide +kernel
theorem dX6_strikesIn_10 : decode cX6_strikesIn 10 = .ok (.aload_n 0, 1) := by decide +kernel
theorem dX6_strikesIn_11 : decode cX6_strikesIn 11 = .ok (.iload_n 1, 1) := by decide +kernel
theorem dX6_strikesIn_12 : decode cX6_strikesIn 12 = .ok (.iload_n 2, 1) := by decide +kernel
theorem dX6_strikesIn_13 : decode cX6_strikesIn 13 = .ok (.invokevirtual 63, 3) := by decide +kernel
theorem dX6_strikesIn_16 : decode cX6_strikesIn 16 = .ok (.invokevirtual 67, 3) := by decide +kernel
theorem dX6_strikesIn_19 : decode cX6_strikesIn 19 = .ok (.ifCond .eq 7, 3) := by decide +kernel
theorem dX6_strikesIn_22 : decode cX6_strikesIn 22 = .ok (.iconst 1, 1) := by decide +kernel
theorem dX6_strikesIn_23 : decode cX6_strikesIn 23 = .ok (.goto 4, 3) := by decide +kernel
theorem dX6_strikesIn_26 : decode cX6_strikesIn 26 = .ok (.iconst 0, 1) := by decide +kernel
theorem dX6_strikesIn_27 : decode cX6_strikesIn 27 = .ok (.ireturn, 1) := by decide +kernel
theorem dX6_howManyStrike_0 : decode cX6_howManyStrike 0 = .ok (.iconst 0, 1) := by decide +kernel
theorem dX6_howManyStrike_1 : decode cX6_howManyStrike 1 = .ok (.istore_n 1, 1) := by decide +kernel
theorem dX6_howManyStrike_2 : decode cX6_howManyStrike 2 = .ok (.iconst 0, 1) := by decide +kernel
theorem dX6_howManyStrike_3 : decode cX6_howManyStrike 3 = .ok (.istore_n 2, 1) := by decide +kernel
theorem dX6_howManyStrike_4 : decode cX6_howManyStrike 4 = .ok (.iload_n 2, 1) := by decide +kernel
theorem dX6_howManyStrike_5 : decode cX6_howManyStrike 5 = .ok (.aload_n 0, 1) := by decide +kernel
theorem dX6_howManyStrike_6 : decode cX6_howManyStrike 6 = .ok (.getfield 40, 3) := by decide +kernel
theorem dX6_howManyStrike_9 : decode cX6_howManyStrike 9 = .ok (.if_icmp .ge 21, 3) := by decide +kernel
theorem dX6_howManyStrike_12 : decode cX6_howManyStrike 12 = .ok (.aload_n 0, 1) := by decide +kernel
theorem dX6_howManyStrike_13 : decode cX6_howManyStrike 13 = .ok (.iload_n 2, 1) := by decide +kernel
theorem dX6_howManyStrike_14 : decode cX6_howManyStrike 14 = .ok (.iconst 0, 1) := by decide +kernel
theorem dX6_howManyStrike_15 : decode cX6_howManyStrike 15 = .ok (.invokevirtual 71, 3) := by decide +kernel
theorem dX6_howManyStrike_18 : decode cX6_howManyStrike 18 = .ok (.ifCond .eq 6, 3) := by decide +kernel
theorem dX6_howManyStrike_21 : decode cX6_howManyStrike 21 = .ok (.iinc 1 1, 3) := by decide +kernel
theorem dX6_howManyStrike_24 : decode cX6_howManyStrike 24 = .ok (.iinc 2 1, 3) := by decide +kernel
theorem dX6_howManyStrike_27 : decode cX6_howManyStrike 27 = .ok (.goto (-23), 3) := by decide +kernel
theorem dX6_howManyStrike_30 : decode cX6_howManyStrike 30 = .ok (.iload_n 1, 1) := by decide +kernel
theorem dX6_howManyStrike_31 : decode cX6_howManyStrike 31 = .ok (.ireturn, 1) := by decide +kernel
theorem dX6_allPins_0 : decode cX6_allPins 0 = .ok (.iconst 0, 1) := by decide +kernel
theorem dX6_allPins_1 : decode cX6_allPins 1 = .ok (.istore_n 1, 1) := by decide +kernel
theorem dX6_allPins_2 : decode cX6_allPins 2 = .ok (.iconst 0, 1) := by decide +kernel
theorem dX6_allPins_3 : decode cX6_allPins 3 = .ok (.istore_n 2, 1) := by decide +kernel
theorem dX6_allPins_4 : decode cX6_allPins 4 = .ok (.iload_n 2, 1) := by decide +kernel
theorem dX6_allPins_5 : decode cX6_allPins 5 = .ok (.aload_n 0, 1) := by decide +kernel
theorem dX6_allPins_6 : decode cX6_allPins 6 = .ok (.getfield 40, 3) := by decide +kernel
theorem dX6_allPins_9 : decode cX6_allPins 9 = .ok (.if_icmp .ge 27, 3) := by decide +kernel
theorem dX6_allPins_12 : decode cX6_allPins 12 = .ok (.iload_n 2, 1) := by decide +kernel
theorem dX6_allPins_13 : decode cX6_allPins 13 = .ok (.bipush 6, 2) := by decide +kernel
theorem dX6_allPins_15 : decode cX6_allPins 15 = .ok (.if_icmp .ge 21, 3) := by decide +kernel
theorem dX6_allPins_18 : decode cX6_allPins 18 = .ok (.iload_n 1, 1) := by decide +kernel
theorem dX6_allPins_19 : decode cX6_allPins 19 = .ok (.aload_n 0, 1) := by decide +kernel
theorem dX6_allPins_20 : decode cX6_allPins 20 = .ok (.getfield 21, 3) := by decide +kernel
theorem dX6_allPins_23 : decode cX6_allPins 23 = .ok (.iload_n 2, 1) := by decide +kernel
theorem dX6_allPins_24 : decode cX6_allPins 24 = .ok (.iaload, 1) := by decide +kernel
theorem dX6_allPins_25 : decode cX6_allPins 25 = .ok (.invokestatic 74, 3) := by decide +kernel
theorem dX6_allPins_28 : decode cX6_allPins 28 = .ok (.iadd, 1) := by decide +kernel
theorem dX6_allPins_29 : decode cX6_allPins 29 = .ok (.istore_n 1, 1) := by decide +kernel
theorem dX6_allPins_30 : decode cX6_allPins 30 = .ok (.iinc 2 1, 3) := by decide +kernel
theorem dX6_allPins_33 : decode cX6_allPins 33 = .ok (.goto (-29), 3) := by decide +kernel
theorem dX6_allPins_36 : decode cX6_allPins 36 = .ok (.iload_n 1, 1) := by decide +kernel
theorem dX6_allPins_37 : decode cX6_allPins 37 = .ok (.ireturn, 1) := by decide +kernel
theorem dX6_roundOf_0 : decode cX6_roundOf 0 = .ok (.iconst 1, 1) := by decide +kernel
theorem dX6_roundOf_1 : decode cX6_roundOf 1 = .ok (.istore_n 3, 1) := by decide +kernel
theorem dX6_roundOf_2 : decode cX6_roundOf 2 = .ok (.iload_n 1, 1) := by decide +kernel
theorem dX6_roundOf_3 : decode cX6_roundOf 3 = .ok (.istore 4, 2) := by decide +kernel
theorem dX6_roundOf_5 : decode cX6_roundOf 5 = .ok (.iload 4, 2) := by decide +kernel
theorem dX6_roundOf_7 : decode cX6_roundOf 7 = .ok (.iload_n 2, 1) := by decide +kernel
theorem dX6_roundOf_8 : decode cX6_roundOf 8 = .ok (.if_icmp .ge 39, 3) := by decide +kernel
theorem dX6_roundOf_11 : decode cX6_roundOf 11 = .ok (.aload_n 0, 1) := by decide +kernel
theorem dX6_roundOf_12 : decode cX6_roundOf 12 = .ok (.iload 4, 2) := by decide +kernel
theorem dX6_roundOf_14 : decode cX6_roundOf 14 = .ok (.invokevirtual 56, 3) := by decide +kernel
theorem dX6_roundOf_17 : decode cX6_roundOf 17 = .ok (.ifCond .eq 24, 3) := by decide +kernel
theorem dX6_roundOf_20 : decode cX6_roundOf 20 = .ok (.aload_n 0, 1) := by decide +kernel
theorem dX6_roundOf_21 : decode cX6_roundOf 21 = .ok (.iload 4, 2) := by decide +kernel
theorem dX6_roundOf_23 : decode cX6_roundOf 23 = .ok (.invokevirtual 60, 3) := by decide +kernel
theorem dX6_roundOf_26 : decode cX6_roundOf 26 = .ok (.ifCond .ne 15, 3) := by decide +kernel
theorem dX6_roundOf_29 : decode cX6_roundOf 29 = .ok (.iload_n 3, 1) := by decide +kernel
theorem dX6_roundOf_30 : decode cX6_roundOf 30 = .ok (.aload_n 0, 1) := by decide +kernel
theorem dX6_roundOf_31 : decode cX6_roundOf 31 = .ok (.getfield 9, 3) := by decide +kernel
theorem dX6_roundOf_34 : decode cX6_roundOf 34 = .ok (.iload 4, 2) := by decide +kernel
theorem dX6_roundOf_36 : decode cX6_roundOf 36 = .ok (.iaload, 1) := by decide +kernel
theorem dX6_roundOf_37 : decode cX6_roundOf 37 = .ok (.invokestatic 80, 3) := by decide +kernel
theorem dX6_roundOf_40 : decode cX6_roundOf 40 = .ok (.istore_n 3, 1) := by decide +kernel
theorem dX6_roundOf_41 : decode cX6_roundOf 41 = .ok (.iinc 4 1, 3) := by decide +kernel
theorem dX6_roundOf_44 : decode cX6_roundOf 44 = .ok (.goto (-39), 3) := by decide +kernel
theorem dX6_roundOf_47 : decode cX6_roundOf 47 = .ok (.iload_n 3, 1) := by decide +kernel
theorem dX6_roundOf_48 : decode cX6_roundOf 48 = .ok (.ireturn, 1) := by decide +kernel
theorem dX6_multipleOf_0 : decode cX6_multipleOf 0 = .ok (.iconst 1, 1) := by decide +kernel
theorem dX6_multipleOf_1 : decode cX6_multipleOf 1 = .ok (.istore_n 2, 1) := by decide +kernel
theorem dX6_multipleOf_2 : decode cX6_multipleOf 2 = .ok (.iload_n 2, 1) := by decide +kernel
theorem dX6_multipleOf_3 : decode cX6_multipleOf 3 = .ok (.bipush 12, 2) := by decide +kernel
theorem dX6_multipleOf_5 : decode cX6_multipleOf 5 = .ok (.if_icmp .gt 25, 3) := by decide +kernel
theorem dX6_multipleOf_8 : decode cX6_multipleOf 8 = .ok (.iload_n 1, 1) := by decide +kernel
theorem dX6_multipleOf_9 : decode cX6_multipleOf 9 = .ok (.ifCond .le 15, 3) := by decide +kernel
theorem dX6_multipleOf_12 : decode cX6_multipleOf 12 = .ok (.iload_n 0, 1) := by decide +kernel
theorem dX6_multipleOf_13 : decode cX6_multipleOf 13 = .ok (.iload_n 2, 1) := by decide +kernel
theorem dX6_multipleOf_14 : decode cX6_multipleOf 14 = .ok (.imul, 1) := by decide +kernel
theorem dX6_multipleOf_15 : decode cX6_multipleOf 15 = .ok (.iload_n 1, 1) := by decide +kernel
theorem dX6_multipleOf_16 : decode cX6_multipleOf 16 = .ok (.irem, 1) := by decide +kernel
theorem dX6_multipleOf_17 : decode cX6_multipleOf 17 = .ok (.ifCond .ne 7, 3) := by decide +kernel
theorem dX6_multipleOf_20 : decode cX6_multipleOf 20 = .ok (.iload_n 0, 1) := by decide +kernel
theorem dX6_multipleOf_21 : decode cX6_multipleOf 21 = .ok (.iload_n 2, 1) := by decide +kernel
theorem dX6_multipleOf_22 : decode cX6_multipleOf 22 = .ok (.imul, 1) := by decide +kernel
theorem dX6_multipleOf_23 : decode cX6_multipleOf 23 = .ok (.ireturn, 1) := by decide +kernel
theorem dX6_multipleOf_24 : decode cX6_multipleOf 24 = .ok (.iinc 2 1, 3) := by decide +kernel
theorem dX6_multipleOf_27 : decode cX6_multipleOf 27 = .ok (.goto (-25), 3) := by decide +kernel
theorem dX6_multipleOf_30 : decode cX6_multipleOf 30 = .ok (.iload_n 0, 1) := by decide +kernel
theorem dX6_multipleOf_31 : decode cX6_multipleOf 31 = .ok (.ireturn, 1) := by decide +kernel
theorem dX6_lawOf_0 : decode cX6_lawOf 0 = .ok (.iload_n 1, 1) := by decide +kernel
theorem dX6_lawOf_1 : decode cX6_lawOf 1 = .ok (.ifCond .lt 26, 3) := by decide +kernel
theorem dX6_lawOf_4 : decode cX6_lawOf 4 = .ok (.iload_n 1, 1) := by decide +kernel
theorem dX6_lawOf_5 : decode cX6_lawOf 5 = .ok (.aload_n 0, 1) := by decide +kernel
theorem dX6_lawOf_6 : decode cX6_lawOf 6 = .ok (.getfield 47, 3) := by decide +kernel
theorem dX6_lawOf_9 : decode cX6_lawOf 9 = .ok (.if_icmp .ge 18, 3) := by decide +kernel
theorem dX6_lawOf_12 : decode cX6_lawOf 12 = .ok (.iload_n 1, 1) := by decide +kernel
theorem dX6_lawOf_13 : decode cX6_lawOf 13 = .ok (.bipush 6, 2) := by decide +kernel
theorem dX6_lawOf_15 : decode cX6_lawOf 15 = .ok (.if_icmp .ge 12, 3) := by decide +kernel
theorem dX6_lawOf_18 : decode cX6_lawOf 18 = .ok (.aload_n 0, 1) := by decide +kernel
theorem dX6_lawOf_19 : decode cX6_lawOf 19 = .ok (.getfield 29, 3) := by decide +kernel
theorem dX6_lawOf_22 : decode cX6_lawOf 22 = .ok (.iload_n 1, 1) := by decide +kernel
theorem dX6_lawOf_23 : decode cX6_lawOf 23 = .ok (.aaload, 1) := by decide +kernel
theorem dX6_lawOf_24 : decode cX6_lawOf 24 = .ok (.goto 4, 3) := by decide +kernel
theorem dX6_lawOf_27 : decode cX6_lawOf 27 = .ok (.aconst_null, 1) := by decide +kernel
theorem dX6_lawOf_28 : decode cX6_lawOf 28 = .ok (.areturn, 1) := by decide +kernel
theorem dX6_suspects_0 : decode cX6_suspects 0 = .ok (.iconst 0, 1) := by decide +kernel
theorem dX6_suspects_1 : decode cX6_suspects 1 = .ok (.istore_n 1, 1) := by decide +kernel
theorem dX6_suspects_2 : decode cX6_suspects 2 = .ok (.iconst 0, 1) := by decide +kernel
theorem dX6_suspects_3 : decode cX6_suspects 3 = .ok (.istore_n 2, 1) := by decide +kernel
theorem dX6_suspects_4 : decode cX6_suspects 4 = .ok (.iload_n 2, 1) := by decide +kernel
theorem dX6_suspects_5 : decode cX6_suspects 5 = .ok (.aload_n 0, 1) := by decide +kernel
theorem dX6_suspects_6 : decode cX6_suspects 6 = .ok (.getfield 40, 3) := by decide +kernel
theorem dX6_suspects_9 : decode cX6_suspects 9 = .ok (.if_icmp .ge 78, 3) := by decide +kernel
theorem dX6_suspects_12 : decode cX6_suspects 12 = .ok (.iconst 1, 1) := by decide +kernel
theorem dX6_suspects_13 : decode cX6_suspects 13 = .ok (.istore_n 3, 1) := by decide +kernel
theorem dX6_suspects_14 : decode cX6_suspects 14 = .ok (.iconst 0, 1) := by decide +kernel
theorem dX6_suspects_15 : decode cX6_suspects 15 = .ok (.istore 4, 2) := by decide +kernel
theorem dX6_suspects_17 : decode cX6_suspects 17 = .ok (.iload 4, 2) := by decide +kernel
theorem dX6_suspects_19 : decode cX6_suspects 19 = .ok (.aload_n 0, 1) := by decide +kernel
theorem dX6_suspects_20 : decode cX6_suspects 20 = .ok (.getfield 53, 3) := by decide +kernel
theorem dX6_suspects_23 : decode cX6_suspects 23 = .ok (.if_icmp .ge 48, 3) := by decide +kernel
theorem dX6_suspects_26 : decode cX6_suspects 26 = .ok (.iload 4, 2) := by decide +kernel
theorem dX6_suspects_28 : decode cX6_suspects 28 = .ok (.bipush 6, 2) := by decide +kernel
theorem dX6_suspects_30 : decode cX6_suspects 30 = .ok (.if_icmp .ge 41, 3) := by decide +kernel
theorem dX6_suspects_33 : decode cX6_suspects 33 = .ok (.iload_n 3, 1) := by decide +kernel
theorem dX6_suspects_34 : decode cX6_suspects 34 = .ok (.ifCond .eq 29, 3) := by decide +kernel
theorem dX6_suspects_37 : decode cX6_suspects 37 = .ok (.aload_n 0, 1) := by decide +kernel
theorem dX6_suspects_38 : decode cX6_suspects 38 = .ok (.iload_n 2, 1) := by decide +kernel
theorem dX6_suspects_39 : decode cX6_suspects 39 = .ok (.aload_n 0, 1) := by decide +kernel
theorem dX6_suspects_40 : decode cX6_suspects 40 = .ok (.getfield 33, 3) := by decide +kernel
theorem dX6_suspects_43 : decode cX6_suspects 43 = .ok (.iload 4, 2) := by decide +kernel
theorem dX6_suspects_45 : decode cX6_suspects 45 = .ok (.iaload, 1) := by decide +kernel
theorem dX6_suspects_46 : decode cX6_suspects 46 = .ok (.invokevirtual 71, 3) := by decide +kernel
theorem dX6_suspects_49 : decode cX6_suspects 49 = .ok (.aload_n 0, 1) := by decide +kernel
theorem dX6_suspects_50 : decode cX6_suspects 50 = .ok (.getfield 36, 3) := by decide +kernel
theorem dX6_suspects_53 : decode cX6_suspects 53 = .ok (.iload 4, 2) := by decide +kernel
theorem dX6_suspects_55 : decode cX6_suspects 55 = .ok (.baload, 1) := by decide +kernel
theorem dX6_suspects_56 : decode cX6_suspects 56 = .ok (.if_icmp .ne 7, 3) := by decide +kernel
theorem dX6_suspects_59 : decode cX6_suspects 59 = .ok (.iconst 1, 1) := by decide +kernel
theorem dX6_suspects_60 : decode cX6_suspects 60 = .ok (.goto 4, 3) := by decide +kernel
theorem dX6_suspects_63 : decode cX6_suspects 63 = .ok (.iconst 0, 1) := by decide +kernel
theorem dX6_suspects_64 : decode cX6_suspects 64 = .ok (.istore_n 3, 1) := by decide +kernel
theorem dX6_suspects_65 : decode cX6_suspects 65 = .ok (.iinc 4 1, 3) := by decide +kernel
theorem dX6_suspects_68 : decode cX6_suspects 68 = .ok (.goto (-51), 3) := by decide +kernel
theorem dX6_suspects_71 : decode cX6_suspects 71 = .ok (.iload_n 3, 1) := by decide +kernel
theorem dX6_suspects_72 : decode cX6_suspects 72 = .ok (.ifCond .eq 9, 3) := by decide +kernel
theorem dX6_suspects_75 : decode cX6_suspects 75 = .ok (.iload_n 1, 1) := by decide +kernel
theorem dX6_suspects_76 : decode cX6_suspects 76 = .ok (.iconst 1, 1) := by decide +kernel
theorem dX6_suspects_77 : decode cX6_suspects 77 = .ok (.iload_n 2, 1) := by decide +kernel
theorem dX6_suspects_78 : decode cX6_suspects 78 = .ok (.ishl, 1) := by decide +kernel
theorem dX6_suspects_79 : decode cX6_suspects 79 = .ok (.ior, 1) := by decide +kernel
theorem dX6_suspects_80 : decode cX6_suspects 80 = .ok (.istore_n 1, 1) := by decide +kernel
theorem dX6_suspects_81 : decode cX6_suspects 81 = .ok (.iinc 2 1, 3) := by decide +kernel
theorem dX6_suspects_84 : decode cX6_suspects 84 = .ok (.goto (-80), 3) := by decide +kernel
theorem dX6_suspects_87 : decode cX6_suspects 87 = .ok (.iload_n 1, 1) := by decide +kernel
theorem dX6_suspects_88 : decode cX6_suspects 88 = .ok (.ireturn, 1) := by decide +kernel
theorem dX7_init_0 : decode cX7_init 0 = .ok (.aload_n 0, 1) := by decide +kernel
theorem dX7_init_1 : decode cX7_init 1 = .ok (.invokespecial 3, 3) := by decide +kernel
theorem dX7_init_4 : decode cX7_init 4 = .ok (.aload_n 0, 1) := by decide +kernel
theorem dX7_init_5 : decode cX7_init 5 = .ok (.bipush 64, 2) := by decide +kernel
theorem dX7_init_7 : decode cX7_init 7 = .ok (.newarray .long, 2) := by decide +kernel
theorem dX7_init_9 : decode cX7_init 9 = .ok (.putfield 9, 3) := by decide +kernel
theorem dX7_init_12 : decode cX7_init 12 = .ok (.return_, 1) := by decide +kernel
theorem dX7_value_0 : decode cX7_value 0 = .ok (.iload_n 2, 1) := by decide +kernel
theorem dX7_value_1 : decode cX7_value 1 = .ok (.iconst (-1), 1) := by decide +kernel
theorem dX7_value_2 : decode cX7_value 2 = .ok (.if_icmp .ne 5, 3) := by decide +kernel
theorem dX7_value_5 : decode cX7_value 5 = .ok (.iconst 1, 1) := by decide +kernel
theorem dX7_value_6 : decode cX7_value 6 = .ok (.ireturn, 1) := by decide +kernel
theorem dX7_value_7 : decode cX7_value 7 = .ok (.iconst 0, 1) := by decide +kernel
theorem dX7_value_8 : decode cX7_value 8 = .ok (.istore 4, 2) := by decide +kernel
theorem dX7_value_10 : decode cX7_value 10 = .ok (.iload_n 2, 1) := by decide +kernel
theorem dX7_value_11 : decode cX7_value 11 = .ok (.istore 5, 2) := by decide +kernel
theorem dX7_value_13 : decode cX7_value 13 = .ok (.iconst 0, 1) := by decide +kernel
theorem dX7_value_14 : decode cX7_value 14 = .ok (.istore 6, 2) := by decide +kernel
theorem dX7_value_16 : decode cX7_value 16 = .ok (.iload 6, 2) := by decide +kernel
theorem dX7_value_18 : decode cX7_value 18 = .ok (.aload_n 1, 1) := by decide +kernel
theorem dX7_value_19 : decode cX7_value 19 = .ok (.arraylength, 1) := by decide +kernel
theorem dX7_value_20 : decode cX7_value 20 = .ok (.if_icmp .ge 275, 3) := by decide +kernel
theorem dX7_value_23 : decode cX7_value 23 = .ok (.iload 5, 2) := by decide +kernel
theorem dX7_value_25 : decode cX7_value 25 = .ok (.ifCond .lt 270, 3) := by decide +kernel
theorem dX7_value_28 : decode cX7_value 28 = .ok (.iload 5, 2) := by decide +kernel
theorem dX7_value_30 : decode cX7_value 30 = .ok (.aload_n 1, 1) := by decide +kernel
theorem dX7_value_31 : decode cX7_value 31 = .ok (.arraylength, 1) := by decide +kernel
theorem dX7_value_32 : decode cX7_value 32 = .ok (.if_icmp .ge 263, 3) := by decide +kernel
theorem dX7_value_35 : decode cX7_value 35 = .ok (.aload_n 1, 1) := by decide +kernel
theorem dX7_value_36 : decode cX7_value 36 = .ok (.iload 5, 2) := by decide +kernel
theorem dX7_value_38 : decode cX7_value 38 = .ok (.iaload, 1) := by decide +kernel
theorem dX7_value_39 : decode cX7_value 39 = .ok (.bipush 15, 2) := by decide +kernel
theorem dX7_value_41 : decode cX7_value 41 = .ok (.iand, 1) := by decide +kernel
theorem dX7_value_42 : decode cX7_value 42 = .ok (.istore 7, 2) := by decide +kernel
theorem dX7_value_44 : decode cX7_value 44 = .ok (.aload_n 1, 1) := by decide +kernel
theorem dX7_value_45 : decode cX7_value 45 = .ok (.iload 5, 2) := by decide +kernel
theorem dX7_value_47 : decode cX7_value 47 = .ok (.iaload, 1) := by decide +kernel
theorem dX7_value_48 : decode cX7_value 48 = .ok (.iconst 4, 1) := by decide +kernel
theorem dX7_value_49 : decode cX7_value 49 = .ok (.iushr, 1) := by decide +kernel
theorem dX7_value_50 : decode cX7_value 50 = .ok (.istore 8, 2) := by decide +kernel
theorem dX7_value_52 : decode cX7_value 52 = .ok (.iinc 5 1, 3) := by decide +kernel
theorem dX7_value_55 : decode cX7_value 55 = .ok (.iload 7, 2) := by decide +kernel
theorem dX7_value_57 : decode cX7_value 57 = .ok (.ifCond .ne 6, 3) := by decide +kernel
theorem dX7_value_60 : decode cX7_value 60 = .ok (.goto 235, 3) := by decide +kernel
theorem dX7_value_63 : decode cX7_value 63 = .ok (.iload 7, 2) := by decide +kernel
theorem dX7_value_65 : decode cX7_value 65 = .ok (.iconst 1, 1) := by decide +kernel
theorem dX7_value_66 : decode cX7_value 66 = .ok (.if_icmp .eq 9, 3) := by decide +kernel
theorem dX7_value_69 : decode cX7_value 69 = .ok (.iload 7, 2) := by decide +kernel
theorem dX7_value_71 : decode cX7_value 71 = .ok (.iconst 2, 1) := by decide +kernel
theorem dX7_value_72 : decode cX7_value 72 = .ok (.if_icmp .ne 56, 3) := by decide +kernel
theorem dX7_value_75 : decode cX7_value 75 = .ok (.iload 4, 2) := by decide +kernel
theorem dX7_value_77 : decode cX7_value 77 = .ok (.bipush 64, 2) := by decide +kernel
theorem dX7_value_79 : decode cX7_value 79 = .ok (.if_icmp .ge 16, 3) := by decide +kernel
theorem dX7_value_82 : decode cX7_value 82 = .ok (.iload 7, 2) := by decide +kernel
theorem dX7_value_84 : decode cX7_value 84 = .ok (.iconst 2, 1) := by decide +kernel
theorem dX7_value_85 : decode cX7_value 85 = .ok (.if_icmp .ne 13, 3) := by decide +kernel
theorem dX7_value_88 : decode cX7_value 88 = .ok (.iload 8, 2) := by decide +kernel
theorem dX7_value_90 : decode cX7_value 90 = .ok (.aload_n 3, 1) := by decide +kernel
theorem dX7_value_91 : decode cX7_value 91 = .ok (.arraylength, 1) := by decide +kernel
theorem dX7_value_92 : decode cX7_value 92 = .ok (.if_icmp .lt 6, 3) := by decide +kernel
theorem dX7_value_95 : decode cX7_value 95 = .ok (.ldc 15, 2) := by decide +kernel
theorem dX7_value_97 : decode cX7_value 97 = .ok (.ireturn, 1) := by decide +kernel
theorem dX7_value_98 : decode cX7_value 98 = .ok (.aload_n 0, 1) := by decide +kernel
theorem dX7_value_99 : decode cX7_value 99 = .ok (.getfield 9, 3) := by decide +kernel
theorem dX7_value_102 : decode cX7_value 102 = .ok (.iload 4, 2) := by decide +kernel
theorem dX7_value_104 : decode cX7_value 104 = .ok (.iload 7, 2) := by decide +kernel
theorem dX7_value_106 : decode cX7_value 106 = .ok (.iconst 1, 1) := by decide +kernel
theorem dX7_value_107 : decode cX7_value 107 = .ok (.if_icmp .ne 9, 3) := by decide +kernel
theorem dX7_value_110 : decode cX7_value 110 = .ok (.iload 8, 2) := by decide +kernel
theorem dX7_value_112 : decode cX7_value 112 = .ok (.i2l, 1) := by decide +kernel
theorem dX7_value_113 : decode cX7_value 113 = .ok (.goto 8, 3) := by decide +kernel
theorem dX7_value_116 : decode cX7_value 116 = .ok (.aload_n 3, 1) := by decide +kernel
theorem dX7_value_117 : decode cX7_value 117 = .ok (.iload 8, 2) := by decide +kernel
theorem dX7_value_119 : decode cX7_value 119 = .ok (.iaload, 1) := by decide +kernel
theorem dX7_value_120 : decode cX7_value 120 = .ok (.i2l, 1) := by decide +kernel
theorem dX7_value_121 : decode cX7_value 121 = .ok (.lastore, 1) := by decide +kernel
theorem dX7_value_122 : decode cX7_value 122 = .ok (.iinc 4 1, 3) := by decide +kernel
theorem dX7_value_125 : decode cX7_value 125 = .ok (.goto 164, 3) := by decide +kernel
theorem dX7_value_128 : decode cX7_value 128 = .ok (.iload 7, 2) := by decide +kernel
theorem dX7_value_130 : decode cX7_value 130 = .ok (.iconst 3, 1) := by decide +kernel
theorem dX7_value_131 : decode cX7_value 131 = .ok (.if_icmp .ne 31, 3) := by decide +kernel
theorem dX7_value_134 : decode cX7_value 134 = .ok (.iload 4, 2) := by decide +kernel
theorem dX7_value_136 : decode cX7_value 136 = .ok (.ifCond .le 26, 3) := by decide +kernel
theorem dX7_value_139 : decode cX7_value 139 = .ok (.aload_n 0, 1) := by decide +kernel
theorem dX7_value_140 : decode cX7_value 140 = .ok (.getfield 9, 3) := by decide +kernel
theorem dX7_value_143 : decode cX7_value 143 = .ok (.iload 4, 2) := by decide +kernel
theorem dX7_value_145 : decode cX7_value 145 = .ok (.iconst 1, 1) := by decide +kernel
theorem dX7_value_146 : decode cX7_value 146 = .ok (.isub, 1) := by decide +kernel
theorem dX7_value_147 : decode cX7_value 147 = .ok (.lconst 1, 1) := by decide +kernel
theorem dX7_value_148 : decode cX7_value 148 = .ok (.aload_n 0, 1) := by decide +kernel
theorem dX7_value_149 : decode cX7_value 149 = .ok (.getfield 9, 3) := by decide +kernel
theorem dX7_value_152 : decode cX7_value 152 = .ok (.iload 4, 2) := by decide +kernel
theorem dX7_value_154 : decode cX7_value 154 = .ok (.iconst 1, 1) := by decide +kernel
theorem dX7_value_155 : decode cX7_value 155 = .ok (.isub, 1) := by decide +kernel
theorem dX7_value_156 : decode cX7_value 156 = .ok (.laload, 1) := by decide +kernel
theorem dX7_value_157 : decode cX7_value 157 = .ok (.lsub, 1) := by decide +kernel
theorem dX7_value_158 : decode cX7_value 158 = .ok (.lastore, 1) := by decide +kernel
theorem dX7_value_159 : decode cX7_value 159 = .ok (.goto 130, 3) := by decide +kernel
theorem dX7_value_162 : decode cX7_value 162 = .ok (.iload 7, 2) := by decide +kernel
theorem dX7_value_164 : decode cX7_value 164 = .ok (.iconst 4, 1) := by decide +kernel
theorem dX7_value_165 : decode cX7_value 165 = .ok (.if_icmp .eq 9, 3) := by decide +kernel
theorem dX7_value_168 : decode cX7_value 168 = .ok (.iload 7, 2) := by decide +kernel
theorem dX7_value_170 : decode cX7_value 170 = .ok (.iconst 5, 1) := by decide +kernel
theorem dX7_value_171 : decode cX7_value 171 = .ok (.if_icmp .ne 46, 3) := by decide +kernel
theorem dX7_value_174 : decode cX7_value 174 = .ok (.iload 4, 2) := by decide +kernel
theorem dX7_value_176 : decode cX7_value 176 = .ok (.ifCond .le 41, 3) := by decide +kernel
theorem dX7_value_179 : decode cX7_value 179 = .ok (.aload_n 0, 1) := by decide +kernel
theorem dX7_value_180 : decode cX7_value 180 = .ok (.getfield 9, 3) := by decide +kernel
theorem dX7_value_183 : decode cX7_value 183 = .ok (.iload 4, 2) := by decide +kernel
theorem dX7_value_185 : decode cX7_value 185 = .ok (.iconst 1, 1) := by decide +kernel
theorem dX7_value_186 : decode cX7_value 186 = .ok (.isub, 1) := by decide +kernel
theorem dX7_value_187 : decode cX7_value 187 = .ok (.laload, 1) := by decide +kernel
theorem dX7_value_188 : decode cX7_value 188 = .ok (.iload 7, 2) := by decide +kernel
theorem dX7_value_190 : decode cX7_value 190 = .ok (.iconst 4, 1) := by decide +kernel
theorem dX7_value_191 : decode cX7_value 191 = .ok (.if_icmp .ne 7, 3) := by decide +kernel
theorem dX7_value_194 : decode cX7_value 194 = .ok (.iconst 1, 1) := by decide +kernel
theorem dX7_value_195 : decode cX7_value 195 = .ok (.goto 4, 3) := by decide +kernel
theorem dX7_value_198 : decode cX7_value 198 = .ok (.iconst 0, 1) := by decide +kernel
theorem dX7_value_199 : decode cX7_value 199 = .ok (.i2l, 1) := by decide +kernel
theorem dX7_value_200 : decode cX7_value 200 = .ok (.lcmp, 1) := by decide +kernel
theorem dX7_value_201 : decode cX7_value 201 = .ok (.ifCond .ne 10, 3) := by decide +kernel
theorem dX7_value_204 : decode cX7_value 204 = .ok (.iload 8, 2) := by decide +kernel
theorem dX7_value_206 : decode cX7_value 206 = .ok (.istore 5, 2) := by decide +kernel
theorem dX7_value_208 : decode cX7_value 208 = .ok (.goto 81, 3) := by decide +kernel
theorem dX7_value_211 : decode cX7_value 211 = .ok (.iinc 4 (-1), 3) := by decide +kernel
theorem dX7_value_214 : decode cX7_value 214 = .ok (.goto 75, 3) := by decide +kernel
theorem dX7_value_217 : decode cX7_value 217 = .ok (.iload 4, 2) := by decide +kernel
theorem dX7_value_219 : decode cX7_value 219 = .ok (.iconst 1, 1) := by decide +kernel
theorem dX7_value_220 : decode cX7_value 220 = .ok (.if_icmp .le 66, 3) := by decide +kernel
theorem dX7_value_223 : decode cX7_value 223 = .ok (.iload 7, 2) := by decide +kernel
theorem dX7_value_225 : decode cX7_value 225 = .ok (.aload_n 0, 1) := by decide +kernel
theorem dX7_value_226 : decode cX7_value 226 = .ok (.getfield 9, 3) := by decide +kernel
theorem dX7_value_229 : decode cX7_value 229 = .ok (.iload 4, 2) := by decide +kernel
theorem dX7_value_231 : decode cX7_value 231 = .ok (.iconst 2, 1) := by decide +kernel
theorem dX7_value_232 : decode cX7_value 232 = .ok (.isub, 1) := by decide +kernel
theorem dX7_value_233 : decode cX7_value 233 = .ok (.laload, 1) := by decide +kernel
theorem dX7_value_234 : decode cX7_value 234 = .ok (.aload_n 0, 1) := by decide +kernel
theorem dX7_value_235 : decode cX7_value 235 = .ok (.getfield 9, 3) := by decide +kernel
theorem dX7_value_238 : decode cX7_value 238 = .ok (.iload 4, 2) := by decide +kernel
theorem dX7_value_240 : decode cX7_value 240 = .ok (.iconst 1, 1) := by decide +kernel
theorem dX7_value_241 : decode cX7_value 241 = .ok (.isub, 1) := by decide +kernel
theorem dX7_value_242 : decode cX7_value 242 = .ok (.laload, 1) := by decide +kernel
theorem dX7_value_243 : decode cX7_value 243 = .ok (.invokestatic 16, 3) := by decide +kernel
theorem dX7_value_246 : decode cX7_value 246 = .ok (.lstore 9, 2) := by decide +kernel
theorem dX7_value_248 : decode cX7_value 248 = .ok (.lload 9, 2) := by decide +kernel
theorem dX7_value_250 : decode cX7_value 250 = .ok (.ldc2_w 20, 3) := by decide +kernel
theorem dX7_value_253 : decode cX7_value 253 = .ok (.lcmp, 1) := by decide +kernel
theorem dX7_value_254 : decode cX7_value 254 = .ok (.ifCond .gt 12, 3) := by decide +kernel
theorem dX7_value_257 : decode cX7_value 257 = .ok (.lload 9, 2) := by decide +kernel
theorem dX7_value_259 : decode cX7_value 259 = .ok (.ldc2_w 22, 3) := by decide +kernel
theorem dX7_value_262 : decode cX7_value 262 = .ok (.lcmp, 1) := by decide +kernel
theorem dX7_value_263 : decode cX7_value 263 = .ok (.ifCond .ge 6, 3) := by decide +kernel
theorem dX7_value_266 : decode cX7_value 266 = .ok (.ldc 15, 2) := by decide +kernel
theorem dX7_value_268 : decode cX7_value 268 = .ok (.ireturn, 1) := by decide +kernel
theorem dX7_value_269 : decode cX7_value 269 = .ok (.iinc 4 (-1), 3) := by decide +kernel
theorem dX7_value_272 : decode cX7_value 272 = .ok (.aload_n 0, 1) := by decide +kernel
theorem dX7_value_273 : decode cX7_value 273 = .ok (.getfield 9, 3) := by decide +kernel
theorem dX7_value_276 : decode cX7_value 276 = .ok (.iload 4, 2) := by decide +kernel
theorem dX7_value_278 : decode cX7_value 278 = .ok (.iconst 1, 1) := by decide +kernel
theorem dX7_value_279 : decode cX7_value 279 = .ok (.isub, 1) := by decide +kernel
theorem dX7_value_280 : decode cX7_value 280 = .ok (.lload 9, 2) := by decide +kernel
theorem dX7_value_282 : decode cX7_value 282 = .ok (.lastore, 1) := by decide +kernel
theorem dX7_value_283 : decode cX7_value 283 = .ok (.goto 6, 3) := by decide +kernel
theorem dX7_value_286 : decode cX7_value 286 = .ok (.ldc 15, 2) := by decide +kernel
theorem dX7_value_288 : decode cX7_value 288 = .ok (.ireturn, 1) := by decide +kernel
theorem dX7_value_289 : decode cX7_value 289 = .ok (.iinc 6 1, 3) := by decide +kernel
theorem dX7_value_292 : decode cX7_value 292 = .ok (.goto (-276), 3) := by decide +kernel
theorem dX7_value_295 : decode cX7_value 295 = .ok (.iload 4, 2) := by decide +kernel
theorem dX7_value_297 : decode cX7_value 297 = .ok (.iconst 1, 1) := by decide +kernel
theorem dX7_value_298 : decode cX7_value 298 = .ok (.if_icmp .ne 13, 3) := by decide +kernel
theorem dX7_value_301 : decode cX7_value 301 = .ok (.aload_n 0, 1) := by decide +kernel
theorem dX7_value_302 : decode cX7_value 302 = .ok (.getfield 9, 3) := by decide +kernel
theorem dX7_value_305 : decode cX7_value 305 = .ok (.iconst 0, 1) := by decide +kernel
theorem dX7_value_306 : decode cX7_value 306 = .ok (.laload, 1) := by decide +kernel
theorem dX7_value_307 : decode cX7_value 307 = .ok (.l2i, 1) := by decide +kernel
theorem dX7_value_308 : decode cX7_value 308 = .ok (.goto 5, 3) := by decide +kernel
theorem dX7_value_311 : decode cX7_value 311 = .ok (.ldc 15, 2) := by decide +kernel
theorem dX7_value_313 : decode cX7_value 313 = .ok (.ireturn, 1) := by decide +kernel
theorem dX7_join_0 : decode cX7_join 0 = .ok (.iload_n 0, 1) := by decide +kernel
theorem dX7_join_1 : decode cX7_join 1 = .ok (.tableswitch 127 6 13 #[47, 51, 55, 59, 75, 91, 103, 115], 47) := by decide +kernel
theorem dX7_join_48 : decode cX7_join 48 = .ok (.lload_n 1, 1) := by decide +kernel
theorem dX7_join_49 : decode cX7_join 49 = .ok (.lload_n 3, 1) := by decide +kernel
theorem dX7_join_50 : decode cX7_join 50 = .ok (.ladd, 1) := by decide +kernel
theorem dX7_join_51 : decode cX7_join 51 = .ok (.lreturn, 1) := by decide +kernel
theorem dX7_join_52 : decode cX7_join 52 = .ok (.lload_n 1, 1) := by decide +kernel
theorem dX7_join_53 : decode cX7_join 53 = .ok (.lload_n 3, 1) := by decide +kernel
theorem dX7_join_54 : decode cX7_join 54 = .ok (.lsub, 1) := by decide +kernel
theorem dX7_join_55 : decode cX7_join 55 = .ok (.lreturn, 1) := by decide +kernel
theorem dX7_join_56 : decode cX7_join 56 = .ok (.lload_n 1, 1) := by decide +kernel
theorem dX7_join_57 : decode cX7_join 57 = .ok (.lload_n 3, 1) := by decide +kernel
theorem dX7_join_58 : decode cX7_join 58 = .ok (.lmul, 1) := by decide +kernel
theorem dX7_join_59 : decode cX7_join 59 = .ok (.lreturn, 1) := by decide +kernel
theorem dX7_join_60 : decode cX7_join 60 = .ok (.lload_n 3, 1) := by decide +kernel
theorem dX7_join_61 : decode cX7_join 61 = .ok (.lconst 0, 1) := by decide +kernel
theorem dX7_join_62 : decode cX7_join 62 = .ok (.lcmp, 1) := by decide +kernel
theorem dX7_join_63 : decode cX7_join 63 = .ok (.ifCond .ne 9, 3) := by decide +kernel
theorem dX7_join_66 : decode cX7_join 66 = .ok (.ldc2_w 24, 3) := by decide +kernel
theorem dX7_join_69 : decode cX7_join 69 = .ok (.goto 6, 3) := by decide +kernel
theorem dX7_join_72 : decode cX7_join 72 = .ok (.lload_n 1, 1) := by decide +kernel
theorem dX7_join_73 : decode cX7_join 73 = .ok (.lload_n 3, 1) := by decide +kernel
theorem dX7_join_74 : decode cX7_join 74 = .ok (.ldiv, 1) := by decide +kernel
theorem dX7_join_75 : decode cX7_join 75 = .ok (.lreturn, 1) := by decide +kernel
theorem dX7_join_76 : decode cX7_join 76 = .ok (.lload_n 3, 1) := by decide +kernel
theorem dX7_join_77 : decode cX7_join 77 = .ok (.lconst 0, 1) := by decide +kernel
theorem dX7_join_78 : decode cX7_join 78 = .ok (.lcmp, 1) := by decide +kernel
theorem dX7_join_79 : decode cX7_join 79 = .ok (.ifCond .ne 9, 3) := by decide +kernel
theorem dX7_join_82 : decode cX7_join 82 = .ok (.ldc2_w 24, 3) := by decide +kernel
theorem dX7_join_85 : decode cX7_join 85 = .ok (.goto 6, 3) := by decide +kernel
theorem dX7_join_88 : decode cX7_join 88 = .ok (.lload_n 1, 1) := by decide +kernel
theorem dX7_join_89 : decode cX7_join 89 = .ok (.lload_n 3, 1) := by decide +kernel
theorem dX7_join_90 : decode cX7_join 90 = .ok (.lrem, 1) := by decide +kernel
theorem dX7_join_91 : decode cX7_join 91 = .ok (.lreturn, 1) := by decide +kernel
theorem dX7_join_92 : decode cX7_join 92 = .ok (.lload_n 1, 1) := by decide +kernel
theorem dX7_join_93 : decode cX7_join 93 = .ok (.lload_n 3, 1) := by decide +kernel
theorem dX7_join_94 : decode cX7_join 94 = .ok (.lcmp, 1) := by decide +kernel
theorem dX7_join_95 : decode cX7_join 95 = .ok (.ifCond .ge 7, 3) := by decide +kernel
theorem dX7_join_98 : decode cX7_join 98 = .ok (.lconst 1, 1) := by decide +kernel
theorem dX7_join_99 : decode cX7_join 99 = .ok (.goto 4, 3) := by decide +kernel
theorem dX7_join_102 : decode cX7_join 102 = .ok (.lconst 0, 1) := by decide +kernel
theorem dX7_join_103 : decode cX7_join 103 = .ok (.lreturn, 1) := by decide +kernel
theorem dX7_join_104 : decode cX7_join 104 = .ok (.lload_n 1, 1) := by decide +kernel
theorem dX7_join_105 : decode cX7_join 105 = .ok (.lload_n 3, 1) := by decide +kernel
theorem dX7_join_106 : decode cX7_join 106 = .ok (.lcmp, 1) := by decide +kernel
theorem dX7_join_107 : decode cX7_join 107 = .ok (.ifCond .le 7, 3) := by decide +kernel
theorem dX7_join_110 : decode cX7_join 110 = .ok (.lconst 1, 1) := by decide +kernel
theorem dX7_join_111 : decode cX7_join 111 = .ok (.goto 4, 3) := by decide +kernel
theorem dX7_join_114 : decode cX7_join 114 = .ok (.lconst 0, 1) := by decide +kernel
theorem dX7_join_115 : decode cX7_join 115 = .ok (.lreturn, 1) := by decide +kernel
theorem dX7_join_116 : decode cX7_join 116 = .ok (.lload_n 1, 1) := by decide +kernel
theorem dX7_join_117 : decode cX7_join 117 = .ok (.lload_n 3, 1) := by decide +kernel
theorem dX7_join_118 : decode cX7_join 118 = .ok (.lcmp, 1) := by decide +kernel
theorem dX7_join_119 : decode cX7_join 119 = .ok (.ifCond .ne 7, 3) := by decide +kernel
theorem dX7_join_122 : decode cX7_join 122 = .ok (.lconst 1, 1) := by decide +kernel
theorem dX7_join_123 : decode cX7_join 123 = .ok (.goto 4, 3) := by decide +kernel
theorem dX7_join_126 : decode cX7_join 126 = .ok (.lconst 0, 1) := by decide +kernel
theorem dX7_join_127 : decode cX7_join 127 = .ok (.lreturn, 1) := by decide +kernel
theorem dX7_join_128 : decode cX7_join 128 = .ok (.ldc2_w 24, 3) := by decide +kernel
theorem dX7_join_131 : decode cX7_join 131 = .ok (.lreturn, 1) := by decide +kernel
theorem dX8_init_0 : decode cX8_init 0 = .ok (.aload_n 0, 1) := by decide +kernel
theorem dX8_init_1 : decode cX8_init 1 = .ok (.invokespecial 3, 3) := by decide +kernel
theorem dX8_init_4 : decode cX8_init 4 = .ok (.aload_n 0, 1) := by decide +kernel
theorem dX8_init_5 : decode cX8_init 5 = .ok (.sipush 400, 3) := by decide +kernel
theorem dX8_init_8 : decode cX8_init 8 = .ok (.newarray .int, 2) := by decide +kernel
theorem dX8_init_10 : decode cX8_init 10 = .ok (.putfield 9, 3) := by decide +kernel
theorem dX8_init_13 : decode cX8_init 13 = .ok (.aload_n 0, 1) := by decide +kernel
theorem dX8_init_14 : decode cX8_init 14 = .ok (.iconst 0, 1) := by decide +kernel
theorem dX8_init_15 : decode cX8_init 15 = .ok (.putfield 15, 3) := by decide +kernel
theorem dX8_init_18 : decode cX8_init 18 = .ok (.return_, 1) := by decide +kernel
theorem dX8_put_0 : decode cX8_put 0 = .ok (.bipush 24, 2) := by decide +kernel
theorem dX8_put_2 : decode cX8_put 2 = .ok (.istore_n 2, 1) := by decide +kernel
theorem dX8_put_3 : decode cX8_put 3 = .ok (.iload_n 2, 1) := by decide +kernel
theorem dX8_put_4 : decode cX8_put 4 = .ok (.ifCond .lt 52, 3) := by decide +kernel
theorem dX8_put_7 : decode cX8_put 7 = .ok (.aload_n 0, 1) := by decide +kernel
theorem dX8_put_8 : decode cX8_put 8 = .ok (.getfield 15, 3) := by decide +kernel
theorem dX8_put_11 : decode cX8_put 11 = .ok (.ifCond .lt 45, 3) := by decide +kernel
theorem dX8_put_14 : decode cX8_put 14 = .ok (.aload_n 0, 1) := by decide +kernel
theorem dX8_put_15 : decode cX8_put 15 = .ok (.getfield 15, 3) := by decide +kernel
theorem dX8_put_18 : decode cX8_put 18 = .ok (.sipush 400, 3) := by decide +kernel
theorem dX8_put_21 : decode cX8_put 21 = .ok (.if_icmp .ge 35, 3) := by decide +kernel
theorem dX8_put_24 : decode cX8_put 24 = .ok (.aload_n 0, 1) := by decide +kernel
theorem dX8_put_25 : decode cX8_put 25 = .ok (.getfield 9, 3) := by decide +kernel
theorem dX8_put_28 : decode cX8_put 28 = .ok (.aload_n 0, 1) := by decide +kernel
theorem dX8_put_29 : decode cX8_put 29 = .ok (.getfield 15, 3) := by decide +kernel
theorem dX8_put_32 : decode cX8_put 32 = .ok (.iload_n 1, 1) := by decide +kernel
theorem dX8_put_33 : decode cX8_put 33 = .ok (.iload_n 2, 1) := by decide +kernel
theorem dX8_put_34 : decode cX8_put 34 = .ok (.iushr, 1) := by decide +kernel
theorem dX8_put_35 : decode cX8_put 35 = .ok (.sipush 255, 3) := by decide +kernel
theorem dX8_put_38 : decode cX8_put 38 = .ok (.iand, 1) := by decide +kernel
theorem dX8_put_39 : decode cX8_put 39 = .ok (.iastore, 1) := by decide +kernel
theorem dX8_put_40 : decode cX8_put 40 = .ok (.aload_n 0, 1) := by decide +kernel
theorem dX8_put_41 : decode cX8_put 41 = .ok (.dup, 1) := by decide +kernel
theorem dX8_put_42 : decode cX8_put 42 = .ok (.getfield 15, 3) := by decide +kernel
theorem dX8_put_45 : decode cX8_put 45 = .ok (.iconst 1, 1) := by decide +kernel
theorem dX8_put_46 : decode cX8_put 46 = .ok (.iadd, 1) := by decide +kernel
theorem dX8_put_47 : decode cX8_put 47 = .ok (.putfield 15, 3) := by decide +kernel
theorem dX8_put_50 : decode cX8_put 50 = .ok (.iinc 2 (-8), 3) := by decide +kernel
theorem dX8_put_53 : decode cX8_put 53 = .ok (.goto (-50), 3) := by decide +kernel
theorem dX8_put_56 : decode cX8_put 56 = .ok (.return_, 1) := by decide +kernel
theorem dX9_init_0 : decode cX9_init 0 = .ok (.aload_n 0, 1) := by decide +kernel
theorem dX9_init_1 : decode cX9_init 1 = .ok (.invokespecial 3, 3) := by decide +kernel
theorem dX9_init_4 : decode cX9_init 4 = .ok (.aload_n 0, 1) := by decide +kernel
theorem dX9_init_5 : decode cX9_init 5 = .ok (.iconst 0, 1) := by decide +kernel
theorem dX9_init_6 : decode cX9_init 6 = .ok (.putfield 9, 3) := by decide +kernel
theorem dX9_init_9 : decode cX9_init 9 = .ok (.aload_n 0, 1) := by decide +kernel
theorem dX9_init_10 : decode cX9_init 10 = .ok (.iconst 0, 1) := by decide +kernel
theorem dX9_init_11 : decode cX9_init 11 = .ok (.putfield 15, 3) := by decide +kernel
theorem dX9_init_14 : decode cX9_init 14 = .ok (.iload_n 1, 1) := by decide +kernel
theorem dX9_init_15 : decode cX9_init 15 = .ok (.iconst 0, 1) := by decide +kernel
theorem dX9_init_16 : decode cX9_init 16 = .ok (.invokestatic 18, 3) := by decide +kernel
theorem dX9_init_19 : decode cX9_init 19 = .ok (.istore_n 3, 1) := by decide +kernel
theorem dX9_init_20 : decode cX9_init 20 = .ok (.aload_n 0, 1) := by decide +kernel
theorem dX9_init_21 : decode cX9_init 21 = .ok (.iload_n 3, 1) := by decide +kernel
theorem dX9_init_22 : decode cX9_init 22 = .ok (.newarray .int, 2) := by decide +kernel
theorem dX9_init_24 : decode cX9_init 24 = .ok (.putfield 24, 3) := by decide +kernel
theorem dX9_init_27 : decode cX9_init 27 = .ok (.aload_n 0, 1) := by decide +kernel
theorem dX9_init_28 : decode cX9_init 28 = .ok (.iload_n 3, 1) := by decide +kernel
theorem dX9_init_29 : decode cX9_init 29 = .ok (.newarray .int, 2) := by decide +kernel
theorem dX9_init_31 : decode cX9_init 31 = .ok (.putfield 28, 3) := by decide +kernel
theorem dX9_init_34 : decode cX9_init 34 = .ok (.aload_n 0, 1) := by decide +kernel
theorem dX9_init_35 : decode cX9_init 35 = .ok (.iload_n 3, 1) := by decide +kernel
theorem dX9_init_36 : decode cX9_init 36 = .ok (.newarray .int, 2) := by decide +kernel
theorem dX9_init_38 : decode cX9_init 38 = .ok (.putfield 31, 3) := by decide +kernel
theorem dX9_init_41 : decode cX9_init 41 = .ok (.aload_n 0, 1) := by decide +kernel
theorem dX9_init_42 : decode cX9_init 42 = .ok (.iload_n 3, 1) := by decide +kernel
theorem dX9_init_43 : decode cX9_init 43 = .ok (.newarray .int, 2) := by decide +kernel
theorem dX9_init_45 : decode cX9_init 45 = .ok (.putfield 34, 3) := by decide +kernel
theorem dX9_init_48 : decode cX9_init 48 = .ok (.aload_n 0, 1) := by decide +kernel
theorem dX9_init_49 : decode cX9_init 49 = .ok (.iload_n 3, 1) := by decide +kernel
theorem dX9_init_50 : decode cX9_init 50 = .ok (.newarray .int, 2) := by decide +kernel
theorem dX9_init_52 : decode cX9_init 52 = .ok (.putfield 37, 3) := by decide +kernel
theorem dX9_init_55 : decode cX9_init 55 = .ok (.aload_n 0, 1) := by decide +kernel
theorem dX9_init_56 : decode cX9_init 56 = .ok (.iload_n 2, 1) := by decide +kernel
theorem dX9_init_57 : decode cX9_init 57 = .ok (.iconst 0, 1) := by decide +kernel
theorem dX9_init_58 : decode cX9_init 58 = .ok (.invokestatic 18, 3) := by decide +kernel
theorem dX9_init_61 : decode cX9_init 61 = .ok (.newarray .int, 2) := by decide +kernel
theorem dX9_init_63 : decode cX9_init 63 = .ok (.putfield 40, 3) := by decide +kernel
theorem dX9_init_66 : decode cX9_init 66 = .ok (.return_, 1) := by decide +kernel
theorem dX9_copied_0 : decode cX9_copied 0 = .ok (.new 10, 3) := by decide +kernel
theorem dX9_copied_3 : decode cX9_copied 3 = .ok (.dup, 1) := by decide +kernel
theorem dX9_copied_4 : decode cX9_copied 4 = .ok (.aload_n 0, 1) := by decide +kernel
theorem dX9_copied_5 : decode cX9_copied 5 = .ok (.getfield 9, 3) := by decide +kernel
theorem dX9_copied_8 : decode cX9_copied 8 = .ok (.aload_n 0, 1) := by decide +kernel
theorem dX9_copied_9 : decode cX9_copied 9 = .ok (.getfield 15, 3) := by decide +kernel
theorem dX9_copied_12 : decode cX9_copied 12 = .ok (.invokespecial 43, 3) := by decide +kernel
theorem dX9_copied_15 : decode cX9_copied 15 = .ok (.astore_n 1, 1) := by decide +kernel
theorem dX9_copied_16 : decode cX9_copied 16 = .ok (.iconst 0, 1) := by decide +kernel
theorem dX9_copied_17 : decode cX9_copied 17 = .ok (.istore_n 2, 1) := by decide +kernel
theorem dX9_copied_18 : decode cX9_copied 18 = .ok (.iload_n 2, 1) := by decide +kernel
theorem dX9_copied_19 : decode cX9_copied 19 = .ok (.aload_n 0, 1) := by decide +kernel
theorem dX9_copied_20 : decode cX9_copied 20 = .ok (.getfield 9, 3) := by decide +kernel
theorem dX9_copied_23 : decode cX9_copied 23 = .ok (.if_icmp .ge 78, 3) := by decide +kernel
theorem dX9_copied_26 : decode cX9_copied 26 = .ok (.iload_n 2, 1) := by decide +kernel
theorem dX9_copied_27 : decode cX9_copied 27 = .ok (.aload_n 0, 1) := by decide +kernel
theorem dX9_copied_28 : decode cX9_copied 28 = .ok (.getfield 24, 3) := by decide +kernel
theorem dX9_copied_31 : decode cX9_copied 31 = .ok (.arraylength, 1) := by decide +kernel
theorem dX9_copied_32 : decode cX9_copied 32 = .ok (.if_icmp .ge 69, 3) := by decide +kernel
theorem dX9_copied_35 : decode cX9_copied 35 = .ok (.aload_n 1, 1) := by decide +kernel
theorem dX9_copied_36 : decode cX9_copied 36 = .ok (.getfield 24, 3) := by decide +kernel
theorem dX9_copied_39 : decode cX9_copied 39 = .ok (.iload_n 2, 1) := by decide +kernel
theorem dX9_copied_40 : decode cX9_copied 40 = .ok (.aload_n 0, 1) := by decide +kernel
theorem dX9_copied_41 : decode cX9_copied 41 = .ok (.getfield 24, 3) := by decide +kernel
theorem dX9_copied_44 : decode cX9_copied 44 = .ok (.iload_n 2, 1) := by decide +kernel
theorem dX9_copied_45 : decode cX9_copied 45 = .ok (.iaload, 1) := by decide +kernel
theorem dX9_copied_46 : decode cX9_copied 46 = .ok (.iastore, 1) := by decide +kernel
theorem dX9_copied_47 : decode cX9_copied 47 = .ok (.aload_n 1, 1) := by decide +kernel
theorem dX9_copied_48 : decode cX9_copied 48 = .ok (.getfield 28, 3) := by decide +kernel
theorem dX9_copied_51 : decode cX9_copied 51 = .ok (.iload_n 2, 1) := by decide +kernel
theorem dX9_copied_52 : decode cX9_copied 52 = .ok (.aload_n 0, 1) := by decide +kernel
theorem dX9_copied_53 : decode cX9_copied 53 = .ok (.getfield 28, 3) := by decide +kernel
theorem dX9_copied_56 : decode cX9_copied 56 = .ok (.iload_n 2, 1) := by decide +kernel
theorem dX9_copied_57 : decode cX9_copied 57 = .ok (.iaload, 1) := by decide +kernel
theorem dX9_copied_58 : decode cX9_copied 58 = .ok (.iastore, 1) := by decide +kernel
theorem dX9_copied_59 : decode cX9_copied 59 = .ok (.aload_n 1, 1) := by decide +kernel
theorem dX9_copied_60 : decode cX9_copied 60 = .ok (.getfield 31, 3) := by decide +kernel
theorem dX9_copied_63 : decode cX9_copied 63 = .ok (.iload_n 2, 1) := by decide +kernel
theorem dX9_copied_64 : decode cX9_copied 64 = .ok (.aload_n 0, 1) := by decide +kernel
theorem dX9_copied_65 : decode cX9_copied 65 = .ok (.getfield 31, 3) := by decide +kernel
theorem dX9_copied_68 : decode cX9_copied 68 = .ok (.iload_n 2, 1) := by decide +kernel
theorem dX9_copied_69 : decode cX9_copied 69 = .ok (.iaload, 1) := by decide +kernel
theorem dX9_copied_70 : decode cX9_copied 70 = .ok (.iastore, 1) := by decide +kernel
theorem dX9_copied_71 : decode cX9_copied 71 = .ok (.aload_n 1, 1) := by decide +kernel
theorem dX9_copied_72 : decode cX9_copied 72 = .ok (.getfield 34, 3) := by decide +kernel
theorem dX9_copied_75 : decode cX9_copied 75 = .ok (.iload_n 2, 1) := by decide +kernel
theorem dX9_copied_76 : decode cX9_copied 76 = .ok (.aload_n 0, 1) := by decide +kernel
theorem dX9_copied_77 : decode cX9_copied 77 = .ok (.getfield 34, 3) := by decide +kernel
theorem dX9_copied_80 : decode cX9_copied 80 = .ok (.iload_n 2, 1) := by decide +kernel
theorem dX9_copied_81 : decode cX9_copied 81 = .ok (.iaload, 1) := by decide +kernel
theorem dX9_copied_82 : decode cX9_copied 82 = .ok (.iastore, 1) := by decide +kernel
theorem dX9_copied_83 : decode cX9_copied 83 = .ok (.aload_n 1, 1) := by decide +kernel
theorem dX9_copied_84 : decode cX9_copied 84 = .ok (.getfield 37, 3) := by decide +kernel
theorem dX9_copied_87 : decode cX9_copied 87 = .ok (.iload_n 2, 1) := by decide +kernel
theorem dX9_copied_88 : decode cX9_copied 88 = .ok (.aload_n 0, 1) := by decide +kernel
theorem dX9_copied_89 : decode cX9_copied 89 = .ok (.getfield 37, 3) := by decide +kernel
theorem dX9_copied_92 : decode cX9_copied 92 = .ok (.iload_n 2, 1) := by decide +kernel
theorem dX9_copied_93 : decode cX9_copied 93 = .ok (.iaload, 1) := by decide +kernel
theorem dX9_copied_94 : decode cX9_copied 94 = .ok (.iastore, 1) := by decide +kernel
theorem dX9_copied_95 : decode cX9_copied 95 = .ok (.iinc 2 1, 3) := by decide +kernel
theorem dX9_copied_98 : decode cX9_copied 98 = .ok (.goto (-80), 3) := by decide +kernel
theorem dX9_copied_101 : decode cX9_copied 101 = .ok (.iconst 0, 1) := by decide +kernel
theorem dX9_copied_102 : decode cX9_copied 102 = .ok (.istore_n 2, 1) := by decide +kernel
theorem dX9_copied_103 : decode cX9_copied 103 = .ok (.iload_n 2, 1) := by decide +kernel
theorem dX9_copied_104 : decode cX9_copied 104 = .ok (.aload_n 0, 1) := by decide +kernel
theorem dX9_copied_105 : decode cX9_copied 105 = .ok (.getfield 15, 3) := by decide +kernel
theorem dX9_copied_108 : decode cX9_copied 108 = .ok (.if_icmp .ge 30, 3) := by decide +kernel
theorem dX9_copied_111 : decode cX9_copied 111 = .ok (.iload_n 2, 1) := by decide +kernel
theorem dX9_copied_112 : decode cX9_copied 112 = .ok (.aload_n 0, 1) := by decide +kernel
theorem dX9_copied_113 : decode cX9_copied 113 = .ok (.getfield 40, 3) := by decide +kernel
theorem dX9_copied_116 : decode cX9_copied 116 = .ok (.arraylength, 1) := by decide +kernel
theorem dX9_copied_117 : decode cX9_copied 117 = .ok (.if_icmp .ge 21, 3) := by decide +kernel
theorem dX9_copied_120 : decode cX9_copied 120 = .ok (.aload_n 1, 1) := by decide +kernel
theorem dX9_copied_121 : decode cX9_copied 121 = .ok (.getfield 40, 3) := by decide +kernel
theorem dX9_copied_124 : decode cX9_copied 124 = .ok (.iload_n 2, 1) := by decide +kernel
theorem dX9_copied_125 : decode cX9_copied 125 = .ok (.aload_n 0, 1) := by decide +kernel
theorem dX9_copied_126 : decode cX9_copied 126 = .ok (.getfield 40, 3) := by decide +kernel
theorem dX9_copied_129 : decode cX9_copied 129 = .ok (.iload_n 2, 1) := by decide +kernel
theorem dX9_copied_130 : decode cX9_copied 130 = .ok (.iaload, 1) := by decide +kernel
theorem dX9_copied_131 : decode cX9_copied 131 = .ok (.iastore, 1) := by decide +kernel
theorem dX9_copied_132 : decode cX9_copied 132 = .ok (.iinc 2 1, 3) := by decide +kernel
theorem dX9_copied_135 : decode cX9_copied 135 = .ok (.goto (-32), 3) := by decide +kernel
theorem dX9_copied_138 : decode cX9_copied 138 = .ok (.aload_n 1, 1) := by decide +kernel
theorem dX9_copied_139 : decode cX9_copied 139 = .ok (.aload_n 0, 1) := by decide +kernel
theorem dX9_copied_140 : decode cX9_copied 140 = .ok (.getfield 9, 3) := by decide +kernel
theorem dX9_copied_143 : decode cX9_copied 143 = .ok (.putfield 9, 3) := by decide +kernel
theorem dX9_copied_146 : decode cX9_copied 146 = .ok (.aload_n 1, 1) := by decide +kernel
theorem dX9_copied_147 : decode cX9_copied 147 = .ok (.aload_n 0, 1) := by decide +kernel
theorem dX9_copied_148 : decode cX9_copied 148 = .ok (.getfield 15, 3) := by decide +kernel
theorem dX9_copied_151 : decode cX9_copied 151 = .ok (.putfield 15, 3) := by decide +kernel
theorem dX9_copied_154 : decode cX9_copied 154 = .ok (.aload_n 1, 1) := by decide +kernel
theorem dX9_copied_155 : decode cX9_copied 155 = .ok (.areturn, 1) := by decide +kernel
theorem dX9_begin_0 : decode cX9_begin 0 = .ok (.aload_n 0, 1) := by decide +kernel
theorem dX9_begin_1 : decode cX9_begin 1 = .ok (.iconst 0, 1) := by decide +kernel
theorem dX9_begin_2 : decode cX9_begin 2 = .ok (.putfield 9, 3) := by decide +kernel
theorem dX9_begin_5 : decode cX9_begin 5 = .ok (.aload_n 0, 1) := by decide +kernel
theorem dX9_begin_6 : decode cX9_begin 6 = .ok (.iconst 0, 1) := by decide +kernel
theorem dX9_begin_7 : decode cX9_begin 7 = .ok (.putfield 15, 3) := by decide +kernel
theorem dX9_begin_10 : decode cX9_begin 10 = .ok (.return_, 1) := by decide +kernel
theorem dX9_open_0 : decode cX9_open 0 = .ok (.aload_n 0, 1) := by decide +kernel
theorem dX9_open_1 : decode cX9_open 1 = .ok (.getfield 9, 3) := by decide +kernel
theorem dX9_open_4 : decode cX9_open 4 = .ok (.istore_n 2, 1) := by decide +kernel
theorem dX9_open_5 : decode cX9_open 5 = .ok (.iload_n 2, 1) := by decide +kernel
theorem dX9_open_6 : decode cX9_open 6 = .ok (.ifCond .lt 12, 3) := by decide +kernel
theorem dX9_open_9 : decode cX9_open 9 = .ok (.iload_n 2, 1) := by decide +kernel
theorem dX9_open_10 : decode cX9_open 10 = .ok (.aload_n 0, 1) := by decide +kernel
theorem dX9_open_11 : decode cX9_open 11 = .ok (.getfield 24, 3) := by decide +kernel
theorem dX9_open_14 : decode cX9_open 14 = .ok (.arraylength, 1) := by decide +kernel
theorem dX9_open_15 : decode cX9_open 15 = .ok (.if_icmp .lt 5, 3) := by decide +kernel
theorem dX9_open_18 : decode cX9_open 18 = .ok (.iconst (-1), 1) := by decide +kernel
theorem dX9_open_19 : decode cX9_open 19 = .ok (.ireturn, 1) := by decide +kernel
theorem dX9_open_20 : decode cX9_open 20 = .ok (.aload_n 0, 1) := by decide +kernel
theorem dX9_open_21 : decode cX9_open 21 = .ok (.getfield 24, 3) := by decide +kernel
theorem dX9_open_24 : decode cX9_open 24 = .ok (.iload_n 2, 1) := by decide +kernel
theorem dX9_open_25 : decode cX9_open 25 = .ok (.iload_n 1, 1) := by decide +kernel
theorem dX9_open_26 : decode cX9_open 26 = .ok (.iastore, 1) := by decide +kernel
theorem dX9_open_27 : decode cX9_open 27 = .ok (.aload_n 0, 1) := by decide +kernel
theorem dX9_open_28 : decode cX9_open 28 = .ok (.getfield 28, 3) := by decide +kernel
theorem dX9_open_31 : decode cX9_open 31 = .ok (.iload_n 2, 1) := by decide +kernel
theorem dX9_open_32 : decode cX9_open 32 = .ok (.iconst 1, 1) := by decide +kernel
theorem dX9_open_33 : decode cX9_open 33 = .ok (.iastore, 1) := by decide +kernel
theorem dX9_open_34 : decode cX9_open 34 = .ok (.aload_n 0, 1) := by decide +kernel
theorem dX9_open_35 : decode cX9_open 35 = .ok (.getfield 31, 3) := by decide +kernel
theorem dX9_open_38 : decode cX9_open 38 = .ok (.iload_n 2, 1) := by decide +kernel
theorem dX9_open_39 : decode cX9_open 39 = .ok (.iconst (-1), 1) := by decide +kernel
theorem dX9_open_40 : decode cX9_open 40 = .ok (.iastore, 1) := by decide +kernel
theorem dX9_open_41 : decode cX9_open 41 = .ok (.aload_n 0, 1) := by decide +kernel
theorem dX9_open_42 : decode cX9_open 42 = .ok (.getfield 34, 3) := by decide +kernel
theorem dX9_open_45 : decode cX9_open 45 = .ok (.iload_n 2, 1) := by decide +kernel
theorem dX9_open_46 : decode cX9_open 46 = .ok (.iconst (-1), 1) := by decide +kernel
theorem dX9_open_47 : decode cX9_open 47 = .ok (.iastore, 1) := by decide +kernel
theorem dX9_open_48 : decode cX9_open 48 = .ok (.aload_n 0, 1) := by decide +kernel
theorem dX9_open_49 : decode cX9_open 49 = .ok (.getfield 37, 3) := by decide +kernel
theorem dX9_open_52 : decode cX9_open 52 = .ok (.iload_n 2, 1) := by decide +kernel
theorem dX9_open_53 : decode cX9_open 53 = .ok (.iconst (-1), 1) := by decide +kernel
theorem dX9_open_54 : decode cX9_open 54 = .ok (.iastore, 1) := by decide +kernel
theorem dX9_open_55 : decode cX9_open 55 = .ok (.aload_n 0, 1) := by decide +kernel
theorem dX9_open_56 : decode cX9_open 56 = .ok (.dup, 1) := by decide +kernel
theorem dX9_open_57 : decode cX9_open 57 = .ok (.getfield 9, 3) := by decide +kernel
theorem dX9_open_60 : decode cX9_open 60 = .ok (.iconst 1, 1) := by decide +kernel
theorem dX9_open_61 : decode cX9_open 61 = .ok (.iadd, 1) := by decide +kernel
theorem dX9_open_62 : decode cX9_open 62 = .ok (.putfield 9, 3) := by decide +kernel
theorem dX9_open_65 : decode cX9_open 65 = .ok (.iload_n 2, 1) := by decide +kernel
theorem dX9_open_66 : decode cX9_open 66 = .ok (.ireturn, 1) := by decide +kernel
theorem dX9_put_0 : decode cX9_put 0 = .ok (.aload_n 0, 1) := by decide +kernel
theorem dX9_put_1 : decode cX9_put 1 = .ok (.getfield 15, 3) := by decide +kernel
theorem dX9_put_4 : decode cX9_put 4 = .ok (.ifCond .lt 15, 3) := by decide +kernel
theorem dX9_put_7 : decode cX9_put 7 = .ok (.aload_n 0, 1) := by decide +kernel
theorem dX9_put_8 : decode cX9_put 8 = .ok (.getfield 15, 3) := by decide +kernel
theorem dX9_put_11 : decode cX9_put 11 = .ok (.aload_n 0, 1) := by decide +kernel
theorem dX9_put_12 : decode cX9_put 12 = .ok (.getfield 40, 3) := by decide +kernel
theorem dX9_put_15 : decode cX9_put 15 = .ok (.arraylength, 1) := by decide +kernel
theorem dX9_put_16 : decode cX9_put 16 = .ok (.if_icmp .lt 5, 3) := by decide +kernel
theorem dX9_put_19 : decode cX9_put 19 = .ok (.iconst (-1), 1) := by decide +kernel
theorem dX9_put_20 : decode cX9_put 20 = .ok (.ireturn, 1) := by decide +kernel
theorem dX9_put_21 : decode cX9_put 21 = .ok (.aload_n 0, 1) := by decide +kernel
theorem dX9_put_22 : decode cX9_put 22 = .ok (.getfield 40, 3) := by decide +kernel
theorem dX9_put_25 : decode cX9_put 25 = .ok (.aload_n 0, 1) := by decide +kernel
theorem dX9_put_26 : decode cX9_put 26 = .ok (.getfield 15, 3) := by decide +kernel
theorem dX9_put_29 : decode cX9_put 29 = .ok (.iload_n 2, 1) := by decide +kernel
theorem dX9_put_30 : decode cX9_put 30 = .ok (.iconst 4, 1) := by decide +kernel
theorem dX9_put_31 : decode cX9_put 31 = .ok (.ishl, 1) := by decide +kernel
theorem dX9_put_32 : decode cX9_put 32 = .ok (.iload_n 1, 1) := by decide +kernel
theorem dX9_put_33 : decode cX9_put 33 = .ok (.ior, 1) := by decide +kernel
theorem dX9_put_34 : decode cX9_put 34 = .ok (.iastore, 1) := by decide +kernel
theorem dX9_put_35 : decode cX9_put 35 = .ok (.aload_n 0, 1) := by decide +kernel
theorem dX9_put_36 : decode cX9_put 36 = .ok (.dup, 1) := by decide +kernel
theorem dX9_put_37 : decode cX9_put 37 = .ok (.getfield 15, 3) := by decide +kernel
theorem dX9_put_40 : decode cX9_put 40 = .ok (.iconst 1, 1) := by decide +kernel
theorem dX9_put_41 : decode cX9_put 41 = .ok (.iadd, 1) := by decide +kernel
theorem dX9_put_42 : decode cX9_put 42 = .ok (.putfield 15, 3) := by decide +kernel
theorem dX9_put_45 : decode cX9_put 45 = .ok (.aload_n 0, 1) := by decide +kernel
theorem dX9_put_46 : decode cX9_put 46 = .ok (.getfield 15, 3) := by decide +kernel
theorem dX9_put_49 : decode cX9_put 49 = .ok (.iconst 1, 1) := by decide +kernel
theorem dX9_put_50 : decode cX9_put 50 = .ok (.isub, 1) := by decide +kernel
theorem dX9_put_51 : decode cX9_put 51 = .ok (.ireturn, 1) := by decide +kernel
theorem dX9_land_0 : decode cX9_land 0 = .ok (.iload_n 1, 1) := by decide +kernel
theorem dX9_land_1 : decode cX9_land 1 = .ok (.ifCond .lt 34, 3) := by decide +kernel
theorem dX9_land_4 : decode cX9_land 4 = .ok (.iload_n 1, 1) := by decide +kernel
theorem dX9_land_5 : decode cX9_land 5 = .ok (.aload_n 0, 1) := by decide +kernel
theorem dX9_land_6 : decode cX9_land 6 = .ok (.getfield 40, 3) := by decide +kernel
theorem dX9_land_9 : decode cX9_land 9 = .ok (.arraylength, 1) := by decide +kernel
theorem dX9_land_10 : decode cX9_land 10 = .ok (.if_icmp .ge 25, 3) := by decide +kernel
theorem dX9_land_13 : decode cX9_land 13 = .ok (.aload_n 0, 1) := by decide +kernel
theorem dX9_land_14 : decode cX9_land 14 = .ok (.getfield 40, 3) := by decide +kernel
theorem dX9_land_17 : decode cX9_land 17 = .ok (.iload_n 1, 1) := by decide +kernel
theorem dX9_land_18 : decode cX9_land 18 = .ok (.aload_n 0, 1) := by decide +kernel
theorem dX9_land_19 : decode cX9_land 19 = .ok (.getfield 15, 3) := by decide +kernel
theorem dX9_land_22 : decode cX9_land 22 = .ok (.iconst 4, 1) := by decide +kernel
theorem dX9_land_23 : decode cX9_land 23 = .ok (.ishl, 1) := by decide +kernel
theorem dX9_land_24 : decode cX9_land 24 = .ok (.aload_n 0, 1) := by decide +kernel
theorem dX9_land_25 : decode cX9_land 25 = .ok (.getfield 40, 3) := by decide +kernel
theorem dX9_land_28 : decode cX9_land 28 = .ok (.iload_n 1, 1) := by decide +kernel
theorem dX9_land_29 : decode cX9_land 29 = .ok (.iaload, 1) := by decide +kernel
theorem dX9_land_30 : decode cX9_land 30 = .ok (.bipush 15, 2) := by decide +kernel
theorem dX9_land_32 : decode cX9_land 32 = .ok (.iand, 1) := by decide +kernel
theorem dX9_land_33 : decode cX9_land 33 = .ok (.ior, 1) := by decide +kernel
theorem dX9_land_34 : decode cX9_land 34 = .ok (.iastore, 1) := by decide +kernel
theorem dX9_land_35 : decode cX9_land 35 = .ok (.return_, 1) := by decide +kernel
theorem dJ6_bitCount_0f7a4_0 : decode cJ6_bitCount_0f7a4 0 = .ok (.iload_n 0, 1) := by decide +kernel
theorem dJ6_bitCount_0f7a4_1 : decode cJ6_bitCount_0f7a4 1 = .ok (.iload_n 0, 1) := by decide +kernel
theorem dJ6_bitCount_0f7a4_2 : decode cJ6_bitCount_0f7a4 2 = .ok (.iconst 1, 1) := by decide +kernel
theorem dJ6_bitCount_0f7a4_3 : decode cJ6_bitCount_0f7a4 3 = .ok (.iushr, 1) := by decide +kernel
theorem dJ6_bitCount_0f7a4_4 : decode cJ6_bitCount_0f7a4 4 = .ok (.ldc_w 265, 3) := by decide +kernel
theorem dJ6_bitCount_0f7a4_7 : decode cJ6_bitCount_0f7a4 7 = .ok (.iand, 1) := by decide +kernel
theorem dJ6_bitCount_0f7a4_8 : decode cJ6_bitCount_0f7a4 8 = .ok (.isub, 1) := by decide +kernel
theorem dJ6_bitCount_0f7a4_9 : decode cJ6_bitCount_0f7a4 9 = .ok (.istore_n 0, 1) := by decide +kernel
theorem dJ6_bitCount_0f7a4_10 : decode cJ6_bitCount_0f7a4 10 = .ok (.iload_n 0, 1) := by decide +kernel
theorem dJ6_bitCount_0f7a4_11 : decode cJ6_bitCount_0f7a4 11 = .ok (.ldc_w 266, 3) := by decide +kernel
theorem dJ6_bitCount_0f7a4_14 : decode cJ6_bitCount_0f7a4 14 = .ok (.iand, 1) := by decide +kernel
theorem dJ6_bitCount_0f7a4_15 : decode cJ6_bitCount_0f7a4 15 = .ok (.iload_n 0, 1) := by decide +kernel
theorem dJ6_bitCount_0f7a4_16 : decode cJ6_bitCount_0f7a4 16 = .ok (.iconst 2, 1) := by decide +kernel
theorem dJ6_bitCount_0f7a4_17 : decode cJ6_bitCount_0f7a4 17 = .ok (.iushr, 1) := by decide +kernel
theorem dJ6_bitCount_0f7a4_18 : decode cJ6_bitCount_0f7a4 18 = .ok (.ldc_w 266, 3) := by decide +kernel
theorem dJ6_bitCount_0f7a4_21 : decode cJ6_bitCount_0f7a4 21 = .ok (.iand, 1) := by decide +kernel
theorem dJ6_bitCount_0f7a4_22 : decode cJ6_bitCount_0f7a4 22 = .ok (.iadd, 1) := by decide +kernel
theorem dJ6_bitCount_0f7a4_23 : decode cJ6_bitCount_0f7a4 23 = .ok (.istore_n 0, 1) := by decide +kernel
theorem dJ6_bitCount_0f7a4_24 : decode cJ6_bitCount_0f7a4 24 = .ok (.iload_n 0, 1) := by decide +kernel
theorem dJ6_bitCount_0f7a4_25 : decode cJ6_bitCount_0f7a4 25 = .ok (.iload_n 0, 1) := by decide +kernel
theorem dJ6_bitCount_0f7a4_26 : decode cJ6_bitCount_0f7a4 26 = .ok (.iconst 4, 1) := by decide +kernel
theorem dJ6_bitCount_0f7a4_27 : decode cJ6_bitCount_0f7a4 27 = .ok (.iushr, 1) := by decide +kernel
theorem dJ6_bitCount_0f7a4_28 : decode cJ6_bitCount_0f7a4 28 = .ok (.iadd, 1) := by decide +kernel
theorem dJ6_bitCount_0f7a4_29 : decode cJ6_bitCount_0f7a4 29 = .ok (.ldc_w 267, 3) := by decide +kernel
theorem dJ6_bitCount_0f7a4_32 : decode cJ6_bitCount_0f7a4 32 = .ok (.iand, 1) := by decide +kernel
theorem dJ6_bitCount_0f7a4_33 : decode cJ6_bitCount_0f7a4 33 = .ok (.istore_n 0, 1) := by decide +kernel
theorem dJ6_bitCount_0f7a4_34 : decode cJ6_bitCount_0f7a4 34 = .ok (.iload_n 0, 1) := by decide +kernel
theorem dJ6_bitCount_0f7a4_35 : decode cJ6_bitCount_0f7a4 35 = .ok (.iload_n 0, 1) := by decide +kernel
theorem dJ6_bitCount_0f7a4_36 : decode cJ6_bitCount_0f7a4 36 = .ok (.bipush 8, 2) := by decide +kernel
theorem dJ6_bitCount_0f7a4_38 : decode cJ6_bitCount_0f7a4 38 = .ok (.iushr, 1) := by decide +kernel
theorem dJ6_bitCount_0f7a4_39 : decode cJ6_bitCount_0f7a4 39 = .ok (.iadd, 1) := by decide +kernel
theorem dJ6_bitCount_0f7a4_40 : decode cJ6_bitCount_0f7a4 40 = .ok (.istore_n 0, 1) := by decide +kernel
theorem dJ6_bitCount_0f7a4_41 : decode cJ6_bitCount_0f7a4 41 = .ok (.iload_n 0, 1) := by decide +kernel
theorem dJ6_bitCount_0f7a4_42 : decode cJ6_bitCount_0f7a4 42 = .ok (.iload_n 0, 1) := by decide +kernel
theorem dJ6_bitCount_0f7a4_43 : decode cJ6_bitCount_0f7a4 43 = .ok (.bipush 16, 2) := by decide +kernel
theorem dJ6_bitCount_0f7a4_45 : decode cJ6_bitCount_0f7a4 45 = .ok (.iushr, 1) := by decide +kernel
theorem dJ6_bitCount_0f7a4_46 : decode cJ6_bitCount_0f7a4 46 = .ok (.iadd, 1) := by decide +kernel
theorem dJ6_bitCount_0f7a4_47 : decode cJ6_bitCount_0f7a4 47 = .ok (.istore_n 0, 1) := by decide +kernel
theorem dJ6_bitCount_0f7a4_48 : decode cJ6_bitCount_0f7a4 48 = .ok (.iload_n 0, 1) := by decide +kernel
theorem dJ6_bitCount_0f7a4_49 : decode cJ6_bitCount_0f7a4 49 = .ok (.bipush 63, 2) := by decide +kernel
theorem dJ6_bitCount_0f7a4_51 : decode cJ6_bitCount_0f7a4 51 = .ok (.iand, 1) := by decide +kernel
theorem dJ6_bitCount_0f7a4_52 : decode cJ6_bitCount_0f7a4 52 = .ok (.ireturn, 1) := by decide +kernel
theorem dJ9_max_7cf53_0 : decode cJ9_max_7cf53 0 = .ok (.iload_n 0, 1) := by decide +kernel
theorem dJ9_max_7cf53_1 : decode cJ9_max_7cf53 1 = .ok (.iload_n 1, 1) := by decide +kernel
theorem dJ9_max_7cf53_2 : decode cJ9_max_7cf53 2 = .ok (.if_icmp .lt 7, 3) := by decide +kernel
theorem dJ9_max_7cf53_5 : decode cJ9_max_7cf53 5 = .ok (.iload_n 0, 1) := by decide +kernel
theorem dJ9_max_7cf53_6 : decode cJ9_max_7cf53 6 = .ok (.goto 4, 3) := by decide +kernel
theorem dJ9_max_7cf53_9 : decode cJ9_max_7cf53 9 = .ok (.iload_n 1, 1) := by decide +kernel
theorem dJ9_max_7cf53_10 : decode cJ9_max_7cf53 10 = .ok (.ireturn, 1) := by decide +kernel
theorem dJ9_min_7cf53_0 : decode cJ9_min_7cf53 0 = .ok (.iload_n 0, 1) := by decide +kernel
theorem dJ9_min_7cf53_1 : decode cJ9_min_7cf53 1 = .ok (.iload_n 1, 1) := by decide +kernel
theorem dJ9_min_7cf53_2 : decode cJ9_min_7cf53 2 = .ok (.if_icmp .gt 7, 3) := by decide +kernel
theorem dJ9_min_7cf53_5 : decode cJ9_min_7cf53 5 = .ok (.iload_n 0, 1) := by decide +kernel
theorem dJ9_min_7cf53_6 : decode cJ9_min_7cf53 6 = .ok (.goto 4, 3) := by decide +kernel
theorem dJ9_min_7cf53_9 : decode cJ9_min_7cf53 9 = .ok (.iload_n 1, 1) := by decide +kernel
theorem dJ9_min_7cf53_10 : decode cJ9_min_7cf53 10 = .ok (.ireturn, 1) := by decide +kernel
theorem dJ0_length_8abf5_0 : decode cJ0_length_8abf5 0 = .ok (.aload_n 0, 1) := by decide +kernel
theorem dJ0_length_8abf5_1 : decode cJ0_length_8abf5 1 = .ok (.getfield 9, 3) := by decide +kernel
theorem dJ0_length_8abf5_4 : decode cJ0_length_8abf5 4 = .ok (.arraylength, 1) := by decide +kernel
theorem dJ0_length_8abf5_5 : decode cJ0_length_8abf5 5 = .ok (.aload_n 0, 1) := by decide +kernel
theorem dJ0_length_8abf5_6 : decode cJ0_length_8abf5 6 = .ok (.invokevirtual 335, 3) := by decide +kernel
theorem dJ0_length_8abf5_9 : decode cJ0_length_8abf5 9 = .ok (.ishr, 1) := by decide +kernel
theorem dJ0_length_8abf5_10 : decode cJ0_length_8abf5 10 = .ok (.ireturn, 1) := by decide +kernel
theorem dJ0_charAt_5068e_0 : decode cJ0_charAt_5068e 0 = .ok (.aload_n 0, 1) := by decide +kernel
theorem dJ0_charAt_5068e_1 : decode cJ0_charAt_5068e 1 = .ok (.invokevirtual 492, 3) := by decide +kernel
theorem dJ0_charAt_5068e_4 : decode cJ0_charAt_5068e 4 = .ok (.ifCond .eq 12, 3) := by decide +kernel
theorem dJ0_charAt_5068e_7 : decode cJ0_charAt_5068e 7 = .ok (.aload_n 0, 1) := by decide +kernel
theorem dJ0_charAt_5068e_8 : decode cJ0_charAt_5068e 8 = .ok (.getfield 9, 3) := by decide +kernel
theorem dJ0_charAt_5068e_11 : decode cJ0_charAt_5068e 11 = .ok (.iload_n 1, 1) := by decide +kernel
theorem dJ0_charAt_5068e_12 : decode cJ0_charAt_5068e 12 = .ok (.invokestatic 495, 3) := by decide +kernel
theorem dJ0_charAt_5068e_15 : decode cJ0_charAt_5068e 15 = .ok (.ireturn, 1) := by decide +kernel
theorem dJ0_charAt_5068e_16 : decode cJ0_charAt_5068e 16 = .ok (.aload_n 0, 1) := by decide +kernel
theorem dJ0_charAt_5068e_17 : decode cJ0_charAt_5068e 17 = .ok (.getfield 9, 3) := by decide +kernel
theorem dJ0_charAt_5068e_20 : decode cJ0_charAt_5068e 20 = .ok (.iload_n 1, 1) := by decide +kernel
theorem dJ0_charAt_5068e_21 : decode cJ0_charAt_5068e 21 = .ok (.invokestatic 498, 3) := by decide +kernel
theorem dJ0_charAt_5068e_24 : decode cJ0_charAt_5068e 24 = .ok (.ireturn, 1) := by decide +kernel
theorem dJ0_coder_7d493_0 : decode cJ0_coder_7d493 0 = .ok (.getstatic 38, 3) := by decide +kernel
theorem dJ0_coder_7d493_3 : decode cJ0_coder_7d493 3 = .ok (.ifCond .eq 10, 3) := by decide +kernel
theorem dJ0_coder_7d493_6 : decode cJ0_coder_7d493 6 = .ok (.aload_n 0, 1) := by decide +kernel
theorem dJ0_coder_7d493_7 : decode cJ0_coder_7d493 7 = .ok (.getfield 15, 3) := by decide +kernel
theorem dJ0_coder_7d493_10 : decode cJ0_coder_7d493 10 = .ok (.goto 4, 3) := by decide +kernel
theorem dJ0_coder_7d493_13 : decode cJ0_coder_7d493 13 = .ok (.iconst 1, 1) := by decide +kernel
theorem dJ0_coder_7d493_14 : decode cJ0_coder_7d493 14 = .ok (.ireturn, 1) := by decide +kernel
theorem dJ0_isLatin1_aae02_0 : decode cJ0_isLatin1_aae02 0 = .ok (.getstatic 38, 3) := by decide +kernel
theorem dJ0_isLatin1_aae02_3 : decode cJ0_isLatin1_aae02 3 = .ok (.ifCond .eq 14, 3) := by decide +kernel
theorem dJ0_isLatin1_aae02_6 : decode cJ0_isLatin1_aae02 6 = .ok (.aload_n 0, 1) := by decide +kernel
theorem dJ0_isLatin1_aae02_7 : decode cJ0_isLatin1_aae02 7 = .ok (.getfield 15, 3) := by decide +kernel
theorem dJ0_isLatin1_aae02_10 : decode cJ0_isLatin1_aae02 10 = .ok (.ifCond .ne 7, 3) := by decide +kernel
theorem dJ0_isLatin1_aae02_13 : decode cJ0_isLatin1_aae02 13 = .ok (.iconst 1, 1) := by decide +kernel
theorem dJ0_isLatin1_aae02_14 : decode cJ0_isLatin1_aae02 14 = .ok (.goto 4, 3) := by decide +kernel
theorem dJ0_isLatin1_aae02_17 : decode cJ0_isLatin1_aae02 17 = .ok (.iconst 0, 1) := by decide +kernel
theorem dJ0_isLatin1_aae02_18 : decode cJ0_isLatin1_aae02 18 = .ok (.ireturn, 1) := by decide +kernel
theorem dJ0_checkIndex_df160_0 : decode cJ0_checkIndex_df160 0 = .ok (.iload_n 0, 1) := by decide +kernel
theorem dJ0_checkIndex_df160_1 : decode cJ0_checkIndex_df160 1 = .ok (.iload_n 1, 1) := by decide +kernel
theorem dJ0_checkIndex_df160_2 : decode cJ0_checkIndex_df160 2 = .ok (.getstatic 1053, 3) := by decide +kernel
theorem dJ0_checkIndex_df160_5 : decode cJ0_checkIndex_df160 5 = .ok (.invokestatic 1059, 3) := by decide +kernel
theorem dJ0_checkIndex_df160_8 : decode cJ0_checkIndex_df160 8 = .ok (.pop, 1) := by decide +kernel
theorem dJ0_checkIndex_df160_9 : decode cJ0_checkIndex_df160 9 = .ok (.return_, 1) := by decide +kernel
theorem dJ1_charAt_3b067_0 : decode cJ1_charAt_3b067 0 = .ok (.iload_n 1, 1) := by decide +kernel
theorem dJ1_charAt_3b067_1 : decode cJ1_charAt_3b067 1 = .ok (.aload_n 0, 1) := by decide +kernel
theorem dJ1_charAt_3b067_2 : decode cJ1_charAt_3b067 2 = .ok (.arraylength, 1) := by decide +kernel
theorem dJ1_charAt_3b067_3 : decode cJ1_charAt_3b067 3 = .ok (.invokestatic 9, 3) := by decide +kernel
theorem dJ1_charAt_3b067_6 : decode cJ1_charAt_3b067 6 = .ok (.aload_n 0, 1) := by decide +kernel
theorem dJ1_charAt_3b067_7 : decode cJ1_charAt_3b067 7 = .ok (.iload_n 1, 1) := by decide +kernel
theorem dJ1_charAt_3b067_8 : decode cJ1_charAt_3b067 8 = .ok (.baload, 1) := by decide +kernel
theorem dJ1_charAt_3b067_9 : decode cJ1_charAt_3b067 9 = .ok (.sipush 255, 3) := by decide +kernel
theorem dJ1_charAt_3b067_12 : decode cJ1_charAt_3b067 12 = .ok (.iand, 1) := by decide +kernel
theorem dJ1_charAt_3b067_13 : decode cJ1_charAt_3b067 13 = .ok (.i2c, 1) := by decide +kernel
theorem dJ1_charAt_3b067_14 : decode cJ1_charAt_3b067 14 = .ok (.ireturn, 1) := by decide +kernel
theorem dJ2_getChar_3b067_0 : decode cJ2_getChar_3b067 0 = .ok (.getstatic 44, 3) := by decide +kernel
theorem dJ2_getChar_3b067_3 : decode cJ2_getChar_3b067 3 = .ok (.ifCond .ne 25, 3) := by decide +kernel
theorem dJ2_getChar_3b067_6 : decode cJ2_getChar_3b067 6 = .ok (.iload_n 1, 1) := by decide +kernel
theorem dJ2_getChar_3b067_7 : decode cJ2_getChar_3b067 7 = .ok (.ifCond .lt 11, 3) := by decide +kernel
theorem dJ2_getChar_3b067_10 : decode cJ2_getChar_3b067 10 = .ok (.iload_n 1, 1) := by decide +kernel
theorem dJ2_getChar_3b067_11 : decode cJ2_getChar_3b067 11 = .ok (.aload_n 0, 1) := by decide +kernel
theorem dJ2_getChar_3b067_12 : decode cJ2_getChar_3b067 12 = .ok (.invokestatic 48, 3) := by decide +kernel
theorem dJ2_getChar_3b067_15 : decode cJ2_getChar_3b067 15 = .ok (.if_icmp .lt 13, 3) := by decide +kernel
theorem dJ2_getChar_3b067_18 : decode cJ2_getChar_3b067 18 = .ok (.new 52, 3) := by decide +kernel
theorem dJ2_getChar_3b067_21 : decode cJ2_getChar_3b067 21 = .ok (.dup, 1) := by decide +kernel
theorem dJ2_getChar_3b067_22 : decode cJ2_getChar_3b067 22 = .ok (.ldc 54, 2) := by decide +kernel
theorem dJ2_getChar_3b067_24 : decode cJ2_getChar_3b067 24 = .ok (.invokespecial 56, 3) := by decide +kernel
theorem dJ2_getChar_3b067_27 : decode cJ2_getChar_3b067 27 = .ok (.athrow, 1) := by decide +kernel
theorem dJ2_getChar_3b067_28 : decode cJ2_getChar_3b067 28 = .ok (.iload_n 1, 1) := by decide +kernel
theorem dJ2_getChar_3b067_29 : decode cJ2_getChar_3b067 29 = .ok (.iconst 1, 1) := by decide +kernel
theorem dJ2_getChar_3b067_30 : decode cJ2_getChar_3b067 30 = .ok (.ishl, 1) := by decide +kernel
theorem dJ2_getChar_3b067_31 : decode cJ2_getChar_3b067 31 = .ok (.istore_n 1, 1) := by decide +kernel
theorem dJ2_getChar_3b067_32 : decode cJ2_getChar_3b067 32 = .ok (.aload_n 0, 1) := by decide +kernel
theorem dJ2_getChar_3b067_33 : decode cJ2_getChar_3b067 33 = .ok (.iload_n 1, 1) := by decide +kernel
theorem dJ2_getChar_3b067_34 : decode cJ2_getChar_3b067 34 = .ok (.iinc 1 1, 3) := by decide +kernel
theorem dJ2_getChar_3b067_37 : decode cJ2_getChar_3b067 37 = .ok (.baload, 1) := by decide +kernel
theorem dJ2_getChar_3b067_38 : decode cJ2_getChar_3b067 38 = .ok (.sipush 255, 3) := by decide +kernel
theorem dJ2_getChar_3b067_41 : decode cJ2_getChar_3b067 41 = .ok (.iand, 1) := by decide +kernel
theorem dJ2_getChar_3b067_42 : decode cJ2_getChar_3b067 42 = .ok (.getstatic 59, 3) := by decide +kernel
theorem dJ2_getChar_3b067_45 : decode cJ2_getChar_3b067 45 = .ok (.ishl, 1) := by decide +kernel
theorem dJ2_getChar_3b067_46 : decode cJ2_getChar_3b067 46 = .ok (.aload_n 0, 1) := by decide +kernel
theorem dJ2_getChar_3b067_47 : decode cJ2_getChar_3b067 47 = .ok (.iload_n 1, 1) := by decide +kernel
theorem dJ2_getChar_3b067_48 : decode cJ2_getChar_3b067 48 = .ok (.baload, 1) := by decide +kernel
theorem dJ2_getChar_3b067_49 : decode cJ2_getChar_3b067 49 = .ok (.sipush 255, 3) := by decide +kernel
theorem dJ2_getChar_3b067_52 : decode cJ2_getChar_3b067 52 = .ok (.iand, 1) := by decide +kernel
theorem dJ2_getChar_3b067_53 : decode cJ2_getChar_3b067 53 = .ok (.getstatic 63, 3) := by decide +kernel
theorem dJ2_getChar_3b067_56 : decode cJ2_getChar_3b067 56 = .ok (.ishl, 1) := by decide +kernel
theorem dJ2_getChar_3b067_57 : decode cJ2_getChar_3b067 57 = .ok (.ior, 1) := by decide +kernel
theorem dJ2_getChar_3b067_58 : decode cJ2_getChar_3b067 58 = .ok (.i2c, 1) := by decide +kernel
theorem dJ2_getChar_3b067_59 : decode cJ2_getChar_3b067 59 = .ok (.ireturn, 1) := by decide +kernel
theorem dJ2_length_9d52b_0 : decode cJ2_length_9d52b 0 = .ok (.aload_n 0, 1) := by decide +kernel
theorem dJ2_length_9d52b_1 : decode cJ2_length_9d52b 1 = .ok (.arraylength, 1) := by decide +kernel
theorem dJ2_length_9d52b_2 : decode cJ2_length_9d52b 2 = .ok (.iconst 1, 1) := by decide +kernel
theorem dJ2_length_9d52b_3 : decode cJ2_length_9d52b 3 = .ok (.ishr, 1) := by decide +kernel
theorem dJ2_length_9d52b_4 : decode cJ2_length_9d52b 4 = .ok (.ireturn, 1) := by decide +kernel
theorem dJ2_charAt_3b067_0 : decode cJ2_charAt_3b067 0 = .ok (.iload_n 1, 1) := by decide +kernel
theorem dJ2_charAt_3b067_1 : decode cJ2_charAt_3b067 1 = .ok (.aload_n 0, 1) := by decide +kernel
theorem dJ2_charAt_3b067_2 : decode cJ2_charAt_3b067 2 = .ok (.invokestatic 67, 3) := by decide +kernel
theorem dJ2_charAt_3b067_5 : decode cJ2_charAt_3b067 5 = .ok (.aload_n 0, 1) := by decide +kernel
theorem dJ2_charAt_3b067_6 : decode cJ2_charAt_3b067 6 = .ok (.iload_n 1, 1) := by decide +kernel
theorem dJ2_charAt_3b067_7 : decode cJ2_charAt_3b067 7 = .ok (.invokestatic 71, 3) := by decide +kernel
theorem dJ2_charAt_3b067_10 : decode cJ2_charAt_3b067 10 = .ok (.ireturn, 1) := by decide +kernel
theorem dJ2_checkIndex_2214a_0 : decode cJ2_checkIndex_2214a 0 = .ok (.iload_n 0, 1) := by decide +kernel
theorem dJ2_checkIndex_2214a_1 : decode cJ2_checkIndex_2214a 1 = .ok (.aload_n 1, 1) := by decide +kernel
theorem dJ2_checkIndex_2214a_2 : decode cJ2_checkIndex_2214a 2 = .ok (.invokestatic 48, 3) := by decide +kernel
theorem dJ2_checkIndex_2214a_5 : decode cJ2_checkIndex_2214a 5 = .ok (.invokestatic 414, 3) := by decide +kernel
theorem dJ2_checkIndex_2214a_8 : decode cJ2_checkIndex_2214a 8 = .ok (.return_, 1) := by decide +kernel
theorem dJ3_checkIndex_8e157_0 : decode cJ3_checkIndex_8e157 0 = .ok (.iload_n 0, 1) := by decide +kernel
theorem dJ3_checkIndex_8e157_1 : decode cJ3_checkIndex_8e157 1 = .ok (.ifCond .lt 8, 3) := by decide +kernel
theorem dJ3_checkIndex_8e157_4 : decode cJ3_checkIndex_8e157 4 = .ok (.iload_n 0, 1) := by decide +kernel
theorem dJ3_checkIndex_8e157_5 : decode cJ3_checkIndex_8e157 5 = .ok (.iload_n 1, 1) := by decide +kernel
theorem dJ3_checkIndex_8e157_6 : decode cJ3_checkIndex_8e157 6 = .ok (.if_icmp .lt 10, 3) := by decide +kernel
theorem dJ3_checkIndex_8e157_9 : decode cJ3_checkIndex_8e157 9 = .ok (.aload_n 2, 1) := by decide +kernel
theorem dJ3_checkIndex_8e157_10 : decode cJ3_checkIndex_8e157 10 = .ok (.iload_n 0, 1) := by decide +kernel
theorem dJ3_checkIndex_8e157_11 : decode cJ3_checkIndex_8e157 11 = .ok (.iload_n 1, 1) := by decide +kernel
theorem dJ3_checkIndex_8e157_12 : decode cJ3_checkIndex_8e157 12 = .ok (.invokestatic 95, 3) := by decide +kernel
theorem dJ3_checkIndex_8e157_15 : decode cJ3_checkIndex_8e157 15 = .ok (.athrow, 1) := by decide +kernel
theorem dJ3_checkIndex_8e157_16 : decode cJ3_checkIndex_8e157 16 = .ok (.iload_n 0, 1) := by decide +kernel
theorem dJ3_checkIndex_8e157_17 : decode cJ3_checkIndex_8e157 17 = .ok (.ireturn, 1) := by decide +kernel
