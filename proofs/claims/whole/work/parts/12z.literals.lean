theorem li_m1 : (Int32.ofInt (-1)).toInt = -1 := by decide +kernel
theorem li_0 : (Int32.ofInt (0)).toInt = 0 := by decide +kernel
theorem li_1 : (Int32.ofInt (1)).toInt = 1 := by decide +kernel
theorem li_2 : (Int32.ofInt (2)).toInt = 2 := by decide +kernel
theorem li_3 : (Int32.ofInt (3)).toInt = 3 := by decide +kernel
theorem li_4 : (Int32.ofInt (4)).toInt = 4 := by decide +kernel
theorem li_5 : (Int32.ofInt (5)).toInt = 5 := by decide +kernel
theorem lb_m6 : (Int8.ofInt (-6)).toInt32.toInt = -6 := by decide +kernel
theorem lb_m5 : (Int8.ofInt (-5)).toInt32.toInt = -5 := by decide +kernel
theorem lb_m3 : (Int8.ofInt (-3)).toInt32.toInt = -3 := by decide +kernel
theorem lb_m2 : (Int8.ofInt (-2)).toInt32.toInt = -2 := by decide +kernel
theorem lb_6 : (Int8.ofInt (6)).toInt32.toInt = 6 := by decide +kernel
theorem lb_7 : (Int8.ofInt (7)).toInt32.toInt = 7 := by decide +kernel
theorem lb_8 : (Int8.ofInt (8)).toInt32.toInt = 8 := by decide +kernel
theorem lb_9 : (Int8.ofInt (9)).toInt32.toInt = 9 := by decide +kernel
theorem lb_10 : (Int8.ofInt (10)).toInt32.toInt = 10 := by decide +kernel
theorem lb_11 : (Int8.ofInt (11)).toInt32.toInt = 11 := by decide +kernel
theorem lb_12 : (Int8.ofInt (12)).toInt32.toInt = 12 := by decide +kernel
theorem lb_13 : (Int8.ofInt (13)).toInt32.toInt = 13 := by decide +kernel
theorem lb_14 : (Int8.ofInt (14)).toInt32.toInt = 14 := by decide +kernel
theorem lb_15 : (Int8.ofInt (15)).toInt32.toInt = 15 := by decide +kernel
theorem lb_16 : (Int8.ofInt (16)).toInt32.toInt = 16 := by decide +kernel
theorem lb_17 : (Int8.ofInt (17)).toInt32.toInt = 17 := by decide +kernel
theorem lb_18 : (Int8.ofInt (18)).toInt32.toInt = 18 := by decide +kernel
theorem lb_19 : (Int8.ofInt (19)).toInt32.toInt = 19 := by decide +kernel
theorem lb_20 : (Int8.ofInt (20)).toInt32.toInt = 20 := by decide +kernel
theorem lb_21 : (Int8.ofInt (21)).toInt32.toInt = 21 := by decide +kernel
theorem lb_22 : (Int8.ofInt (22)).toInt32.toInt = 22 := by decide +kernel
theorem lb_23 : (Int8.ofInt (23)).toInt32.toInt = 23 := by decide +kernel
theorem lb_24 : (Int8.ofInt (24)).toInt32.toInt = 24 := by decide +kernel
theorem lb_25 : (Int8.ofInt (25)).toInt32.toInt = 25 := by decide +kernel
theorem lb_26 : (Int8.ofInt (26)).toInt32.toInt = 26 := by decide +kernel
theorem lb_27 : (Int8.ofInt (27)).toInt32.toInt = 27 := by decide +kernel
theorem lb_28 : (Int8.ofInt (28)).toInt32.toInt = 28 := by decide +kernel
theorem lb_29 : (Int8.ofInt (29)).toInt32.toInt = 29 := by decide +kernel
theorem lb_30 : (Int8.ofInt (30)).toInt32.toInt = 30 := by decide +kernel
theorem lb_31 : (Int8.ofInt (31)).toInt32.toInt = 31 := by decide +kernel
theorem lb_32 : (Int8.ofInt (32)).toInt32.toInt = 32 := by decide +kernel
theorem lb_33 : (Int8.ofInt (33)).toInt32.toInt = 33 := by decide +kernel
theorem lb_34 : (Int8.ofInt (34)).toInt32.toInt = 34 := by decide +kernel
theorem lb_35 : (Int8.ofInt (35)).toInt32.toInt = 35 := by decide +kernel
theorem lb_36 : (Int8.ofInt (36)).toInt32.toInt = 36 := by decide +kernel
theorem lb_37 : (Int8.ofInt (37)).toInt32.toInt = 37 := by decide +kernel
theorem lb_38 : (Int8.ofInt (38)).toInt32.toInt = 38 := by decide +kernel
theorem lb_39 : (Int8.ofInt (39)).toInt32.toInt = 39 := by decide +kernel
theorem lb_40 : (Int8.ofInt (40)).toInt32.toInt = 40 := by decide +kernel
theorem lb_41 : (Int8.ofInt (41)).toInt32.toInt = 41 := by decide +kernel
theorem lb_42 : (Int8.ofInt (42)).toInt32.toInt = 42 := by decide +kernel
theorem lb_43 : (Int8.ofInt (43)).toInt32.toInt = 43 := by decide +kernel
theorem lb_44 : (Int8.ofInt (44)).toInt32.toInt = 44 := by decide +kernel
theorem lb_45 : (Int8.ofInt (45)).toInt32.toInt = 45 := by decide +kernel
theorem lb_46 : (Int8.ofInt (46)).toInt32.toInt = 46 := by decide +kernel
theorem lb_47 : (Int8.ofInt (47)).toInt32.toInt = 47 := by decide +kernel
theorem lb_48 : (Int8.ofInt (48)).toInt32.toInt = 48 := by decide +kernel
theorem lb_49 : (Int8.ofInt (49)).toInt32.toInt = 49 := by decide +kernel
theorem lb_50 : (Int8.ofInt (50)).toInt32.toInt = 50 := by decide +kernel
theorem lb_51 : (Int8.ofInt (51)).toInt32.toInt = 51 := by decide +kernel
theorem lb_52 : (Int8.ofInt (52)).toInt32.toInt = 52 := by decide +kernel
theorem lb_53 : (Int8.ofInt (53)).toInt32.toInt = 53 := by decide +kernel
theorem lb_54 : (Int8.ofInt (54)).toInt32.toInt = 54 := by decide +kernel
theorem lb_55 : (Int8.ofInt (55)).toInt32.toInt = 55 := by decide +kernel
theorem lb_56 : (Int8.ofInt (56)).toInt32.toInt = 56 := by decide +kernel
theorem lb_57 : (Int8.ofInt (57)).toInt32.toInt = 57 := by decide +kernel
theorem lb_58 : (Int8.ofInt (58)).toInt32.toInt = 58 := by decide +kernel
theorem lb_59 : (Int8.ofInt (59)).toInt32.toInt = 59 := by decide +kernel
theorem lb_60 : (Int8.ofInt (60)).toInt32.toInt = 60 := by decide +kernel
theorem lb_61 : (Int8.ofInt (61)).toInt32.toInt = 61 := by decide +kernel
theorem lb_62 : (Int8.ofInt (62)).toInt32.toInt = 62 := by decide +kernel
theorem lb_63 : (Int8.ofInt (63)).toInt32.toInt = 63 := by decide +kernel
theorem lb_64 : (Int8.ofInt (64)).toInt32.toInt = 64 := by decide +kernel
theorem lb_65 : (Int8.ofInt (65)).toInt32.toInt = 65 := by decide +kernel
theorem lb_66 : (Int8.ofInt (66)).toInt32.toInt = 66 := by decide +kernel
theorem lb_67 : (Int8.ofInt (67)).toInt32.toInt = 67 := by decide +kernel
theorem lb_68 : (Int8.ofInt (68)).toInt32.toInt = 68 := by decide +kernel
theorem lb_69 : (Int8.ofInt (69)).toInt32.toInt = 69 := by decide +kernel
theorem lb_70 : (Int8.ofInt (70)).toInt32.toInt = 70 := by decide +kernel
theorem lb_71 : (Int8.ofInt (71)).toInt32.toInt = 71 := by decide +kernel
theorem lb_72 : (Int8.ofInt (72)).toInt32.toInt = 72 := by decide +kernel
theorem lb_73 : (Int8.ofInt (73)).toInt32.toInt = 73 := by decide +kernel
theorem lb_74 : (Int8.ofInt (74)).toInt32.toInt = 74 := by decide +kernel
theorem lb_75 : (Int8.ofInt (75)).toInt32.toInt = 75 := by decide +kernel
theorem lb_76 : (Int8.ofInt (76)).toInt32.toInt = 76 := by decide +kernel
theorem lb_77 : (Int8.ofInt (77)).toInt32.toInt = 77 := by decide +kernel
theorem lb_78 : (Int8.ofInt (78)).toInt32.toInt = 78 := by decide +kernel
theorem lb_79 : (Int8.ofInt (79)).toInt32.toInt = 79 := by decide +kernel
theorem lb_80 : (Int8.ofInt (80)).toInt32.toInt = 80 := by decide +kernel
theorem lb_81 : (Int8.ofInt (81)).toInt32.toInt = 81 := by decide +kernel
theorem lb_82 : (Int8.ofInt (82)).toInt32.toInt = 82 := by decide +kernel
theorem lb_83 : (Int8.ofInt (83)).toInt32.toInt = 83 := by decide +kernel
theorem lb_84 : (Int8.ofInt (84)).toInt32.toInt = 84 := by decide +kernel
theorem lb_85 : (Int8.ofInt (85)).toInt32.toInt = 85 := by decide +kernel
theorem lb_86 : (Int8.ofInt (86)).toInt32.toInt = 86 := by decide +kernel
theorem lb_87 : (Int8.ofInt (87)).toInt32.toInt = 87 := by decide +kernel
theorem lb_88 : (Int8.ofInt (88)).toInt32.toInt = 88 := by decide +kernel
theorem lb_89 : (Int8.ofInt (89)).toInt32.toInt = 89 := by decide +kernel
theorem lb_90 : (Int8.ofInt (90)).toInt32.toInt = 90 := by decide +kernel
theorem lb_91 : (Int8.ofInt (91)).toInt32.toInt = 91 := by decide +kernel
theorem lb_92 : (Int8.ofInt (92)).toInt32.toInt = 92 := by decide +kernel
theorem lb_93 : (Int8.ofInt (93)).toInt32.toInt = 93 := by decide +kernel
theorem lb_94 : (Int8.ofInt (94)).toInt32.toInt = 94 := by decide +kernel
theorem lb_95 : (Int8.ofInt (95)).toInt32.toInt = 95 := by decide +kernel
theorem lb_96 : (Int8.ofInt (96)).toInt32.toInt = 96 := by decide +kernel
theorem lb_97 : (Int8.ofInt (97)).toInt32.toInt = 97 := by decide +kernel
theorem lb_98 : (Int8.ofInt (98)).toInt32.toInt = 98 := by decide +kernel
theorem lb_99 : (Int8.ofInt (99)).toInt32.toInt = 99 := by decide +kernel
theorem lb_100 : (Int8.ofInt (100)).toInt32.toInt = 100 := by decide +kernel
theorem lb_101 : (Int8.ofInt (101)).toInt32.toInt = 101 := by decide +kernel
theorem lb_102 : (Int8.ofInt (102)).toInt32.toInt = 102 := by decide +kernel
theorem lb_103 : (Int8.ofInt (103)).toInt32.toInt = 103 := by decide +kernel
theorem lb_104 : (Int8.ofInt (104)).toInt32.toInt = 104 := by decide +kernel
theorem lb_105 : (Int8.ofInt (105)).toInt32.toInt = 105 := by decide +kernel
theorem lb_106 : (Int8.ofInt (106)).toInt32.toInt = 106 := by decide +kernel
theorem lb_107 : (Int8.ofInt (107)).toInt32.toInt = 107 := by decide +kernel
theorem lb_108 : (Int8.ofInt (108)).toInt32.toInt = 108 := by decide +kernel
theorem lb_109 : (Int8.ofInt (109)).toInt32.toInt = 109 := by decide +kernel
theorem lb_110 : (Int8.ofInt (110)).toInt32.toInt = 110 := by decide +kernel
theorem lb_111 : (Int8.ofInt (111)).toInt32.toInt = 111 := by decide +kernel
theorem lb_112 : (Int8.ofInt (112)).toInt32.toInt = 112 := by decide +kernel
theorem lb_113 : (Int8.ofInt (113)).toInt32.toInt = 113 := by decide +kernel
theorem lb_114 : (Int8.ofInt (114)).toInt32.toInt = 114 := by decide +kernel
theorem lb_115 : (Int8.ofInt (115)).toInt32.toInt = 115 := by decide +kernel
theorem lb_116 : (Int8.ofInt (116)).toInt32.toInt = 116 := by decide +kernel
theorem lb_117 : (Int8.ofInt (117)).toInt32.toInt = 117 := by decide +kernel
theorem lb_118 : (Int8.ofInt (118)).toInt32.toInt = 118 := by decide +kernel
theorem lb_119 : (Int8.ofInt (119)).toInt32.toInt = 119 := by decide +kernel
theorem lb_120 : (Int8.ofInt (120)).toInt32.toInt = 120 := by decide +kernel
theorem lb_121 : (Int8.ofInt (121)).toInt32.toInt = 121 := by decide +kernel
theorem lb_122 : (Int8.ofInt (122)).toInt32.toInt = 122 := by decide +kernel
theorem ls_255 : (Int16.ofInt (255)).toInt32.toInt = 255 := by decide +kernel
theorem ls_320 : (Int16.ofInt (320)).toInt32.toInt = 320 := by decide +kernel
theorem ls_400 : (Int16.ofInt (400)).toInt32.toInt = 400 := by decide +kernel
theorem ls_401 : (Int16.ofInt (401)).toInt32.toInt = 401 := by decide +kernel
theorem ls_512 : (Int16.ofInt (512)).toInt32.toInt = 512 := by decide +kernel
theorem ls_990 : (Int16.ofInt (990)).toInt32.toInt = 990 := by decide +kernel
theorem ls_999 : (Int16.ofInt (999)).toInt32.toInt = 999 := by decide +kernel
theorem ls_1000 : (Int16.ofInt (1000)).toInt32.toInt = 1000 := by decide +kernel
theorem ls_1001 : (Int16.ofInt (1001)).toInt32.toInt = 1001 := by decide +kernel
theorem ls_1103 : (Int16.ofInt (1103)).toInt32.toInt = 1103 := by decide +kernel
theorem ls_2400 : (Int16.ofInt (2400)).toInt32.toInt = 2400 := by decide +kernel
theorem ls_2856 : (Int16.ofInt (2856)).toInt32.toInt = 2856 := by decide +kernel
theorem ls_5656 : (Int16.ofInt (5656)).toInt32.toInt = 5656 := by decide +kernel
theorem ls_11312 : (Int16.ofInt (11312)).toInt32.toInt = 11312 := by decide +kernel
theorem ls_12345 : (Int16.ofInt (12345)).toInt32.toInt = 12345 := by decide +kernel
theorem ls_27720 : (Int16.ofInt (27720)).toInt32.toInt = 27720 := by decide +kernel
theorem ls_30000 : (Int16.ofInt (30000)).toInt32.toInt = 30000 := by decide +kernel
theorem lk_J6_265 : ((1431655765 : Int32) : Int32).toInt = 1431655765 := by decide +kernel
theorem lk_J6_266 : ((858993459 : Int32) : Int32).toInt = 858993459 := by decide +kernel
theorem lk_J6_267 : ((252645135 : Int32) : Int32).toInt = 252645135 := by decide +kernel
theorem lk_X7_15 : ((-2000000000 : Int32) : Int32).toInt = -2000000000 := by decide +kernel
theorem lk_X7_24 : ((-2000000000 : Int64) : Int64).toInt = -2000000000 := by decide +kernel
theorem lk_X7_20 : ((1000000000 : Int64) : Int64).toInt = 1000000000 := by decide +kernel
theorem lk_X7_22 : ((-1000000000 : Int64) : Int64).toInt = -1000000000 := by decide +kernel
theorem lk_X0_54 : ((-2000000000 : Int32) : Int32).toInt = -2000000000 := by decide +kernel
theorem lk_X5_69 : ((-2000000000 : Int32) : Int32).toInt = -2000000000 := by decide +kernel
theorem lk_X10_304 : ((-1 : Int64) : Int64).toInt = -1 := by decide +kernel
theorem lk_X10_306 : ((1000000000000 : Int64) : Int64).toInt = 1000000000000 := by decide +kernel
theorem lk_X10_339 : ((10 : Int64) : Int64).toInt = 10 := by decide +kernel
theorem lk_X10_314 : ((1000000 : Int32) : Int32).toInt = 1000000 := by decide +kernel
theorem lk_X10_341 : ((1000003 : Int32) : Int32).toInt = 1000003 := by decide +kernel
theorem lk_X11_269 : ((1000000000 : Int64) : Int64).toInt = 1000000000 := by decide +kernel
theorem lk_X11_271 : ((-1000000000 : Int64) : Int64).toInt = -1000000000 := by decide +kernel
theorem lk_X11_329 : ((9 : Int64) : Int64).toInt = 9 := by decide +kernel
theorem lk_X11_169 : ((1000000 : Int32) : Int32).toInt = 1000000 := by decide +kernel
theorem lk_X11_422 : ((-1 : Int64) : Int64).toInt = -1 := by decide +kernel
theorem lk_X11_424 : ((1000000000000 : Int64) : Int64).toInt = 1000000000000 := by decide +kernel
theorem lk_X11_426 : ((10 : Int64) : Int64).toInt = 10 := by decide +kernel
theorem lk_X11_452 : ((1000000 : Int64) : Int64).toInt = 1000000 := by decide +kernel
theorem lk_X11_465 : ((1103 : Int64) : Int64).toInt = 1103 := by decide +kernel
theorem lk_X11_470 : ((12345 : Int64) : Int64).toInt = 12345 := by decide +kernel
theorem lk_X11_472 : ((1000003 : Int64) : Int64).toInt = 1000003 := by decide +kernel
