theorem cb_m124 : (Int8.ofInt (-124)).toInt32 = -124 := by decide +kernel
theorem cb_m121 : (Int8.ofInt (-121)).toInt32 = -121 := by decide +kernel
theorem cb_m63 : (Int8.ofInt (-63)).toInt32 = -63 := by decide +kernel
theorem cb_m60 : (Int8.ofInt (-60)).toInt32 = -60 := by decide +kernel
theorem cb_m40 : (Int8.ofInt (-40)).toInt32 = -40 := by decide +kernel
theorem cb_m38 : (Int8.ofInt (-38)).toInt32 = -38 := by decide +kernel
theorem cb_m33 : (Int8.ofInt (-33)).toInt32 = -33 := by decide +kernel
theorem cb_m2 : (Int8.ofInt (-2)).toInt32 = -2 := by decide +kernel
theorem cb_6 : (Int8.ofInt (6)).toInt32 = 6 := by decide +kernel
theorem cb_7 : (Int8.ofInt (7)).toInt32 = 7 := by decide +kernel
theorem cb_8 : (Int8.ofInt (8)).toInt32 = 8 := by decide +kernel
theorem cb_9 : (Int8.ofInt (9)).toInt32 = 9 := by decide +kernel
theorem cb_10 : (Int8.ofInt (10)).toInt32 = 10 := by decide +kernel
theorem cb_12 : (Int8.ofInt (12)).toInt32 = 12 := by decide +kernel
theorem cb_20 : (Int8.ofInt (20)).toInt32 = 20 := by decide +kernel
theorem cb_24 : (Int8.ofInt (24)).toInt32 = 24 := by decide +kernel
theorem cb_28 : (Int8.ofInt (28)).toInt32 = 28 := by decide +kernel
theorem cb_30 : (Int8.ofInt (30)).toInt32 = 30 := by decide +kernel
theorem cb_32 : (Int8.ofInt (32)).toInt32 = 32 := by decide +kernel
theorem cb_33 : (Int8.ofInt (33)).toInt32 = 33 := by decide +kernel
theorem cb_38 : (Int8.ofInt (38)).toInt32 = 38 := by decide +kernel
theorem cb_40 : (Int8.ofInt (40)).toInt32 = 40 := by decide +kernel
theorem cb_41 : (Int8.ofInt (41)).toInt32 = 41 := by decide +kernel
theorem cb_42 : (Int8.ofInt (42)).toInt32 = 42 := by decide +kernel
theorem cb_43 : (Int8.ofInt (43)).toInt32 = 43 := by decide +kernel
theorem cb_44 : (Int8.ofInt (44)).toInt32 = 44 := by decide +kernel
theorem cb_45 : (Int8.ofInt (45)).toInt32 = 45 := by decide +kernel
theorem cb_47 : (Int8.ofInt (47)).toInt32 = 47 := by decide +kernel
theorem cb_48 : (Int8.ofInt (48)).toInt32 = 48 := by decide +kernel
theorem cb_57 : (Int8.ofInt (57)).toInt32 = 57 := by decide +kernel
theorem cb_58 : (Int8.ofInt (58)).toInt32 = 58 := by decide +kernel
theorem cb_59 : (Int8.ofInt (59)).toInt32 = 59 := by decide +kernel
theorem cb_60 : (Int8.ofInt (60)).toInt32 = 60 := by decide +kernel
theorem cb_61 : (Int8.ofInt (61)).toInt32 = 61 := by decide +kernel
theorem cb_62 : (Int8.ofInt (62)).toInt32 = 62 := by decide +kernel
theorem cb_63 : (Int8.ofInt (63)).toInt32 = 63 := by decide +kernel
theorem cb_76 : (Int8.ofInt (76)).toInt32 = 76 := by decide +kernel
theorem cb_77 : (Int8.ofInt (77)).toInt32 = 77 := by decide +kernel
theorem cb_78 : (Int8.ofInt (78)).toInt32 = 78 := by decide +kernel
theorem cb_79 : (Int8.ofInt (79)).toInt32 = 79 := by decide +kernel
theorem cb_80 : (Int8.ofInt (80)).toInt32 = 80 := by decide +kernel
theorem cb_81 : (Int8.ofInt (81)).toInt32 = 81 := by decide +kernel
theorem cb_91 : (Int8.ofInt (91)).toInt32 = 91 := by decide +kernel
theorem cb_93 : (Int8.ofInt (93)).toInt32 = 93 := by decide +kernel
theorem cb_98 : (Int8.ofInt (98)).toInt32 = 98 := by decide +kernel
theorem cb_99 : (Int8.ofInt (99)).toInt32 = 99 := by decide +kernel
theorem cb_100 : (Int8.ofInt (100)).toInt32 = 100 := by decide +kernel
theorem cb_104 : (Int8.ofInt (104)).toInt32 = 104 := by decide +kernel
theorem cb_108 : (Int8.ofInt (108)).toInt32 = 108 := by decide +kernel
theorem cb_109 : (Int8.ofInt (109)).toInt32 = 109 := by decide +kernel
theorem cb_115 : (Int8.ofInt (115)).toInt32 = 115 := by decide +kernel
theorem cb_119 : (Int8.ofInt (119)).toInt32 = 119 := by decide +kernel
theorem cb_121 : (Int8.ofInt (121)).toInt32 = 121 := by decide +kernel
theorem cb_124 : (Int8.ofInt (124)).toInt32 = 124 := by decide +kernel
theorem ci_m8 : Int32.ofInt (-8) = -8 := by decide +kernel
theorem ci_m1 : Int32.ofInt (-1) = -1 := by decide +kernel
theorem ci_0 : Int32.ofInt (0) = 0 := by decide +kernel
theorem ci_1 : Int32.ofInt (1) = 1 := by decide +kernel
theorem ci_2 : Int32.ofInt (2) = 2 := by decide +kernel
theorem ci_3 : Int32.ofInt (3) = 3 := by decide +kernel
theorem ci_4 : Int32.ofInt (4) = 4 := by decide +kernel
theorem ci_5 : Int32.ofInt (5) = 5 := by decide +kernel
theorem ci_100 : Int32.ofInt (100) = 100 := by decide +kernel
theorem cl_0 : Int64.ofNat 0 = 0 := by decide +kernel
theorem cl_1 : Int64.ofNat 1 = 1 := by decide +kernel
theorem cn_6 : Int32.ofNat 6 = 6 := by decide +kernel
theorem cs_m999 : (Int16.ofInt (-999)).toInt32 = -999 := by decide +kernel
theorem cs_160 : (Int16.ofInt (160)).toInt32 = 160 := by decide +kernel
theorem cs_255 : (Int16.ofInt (255)).toInt32 = 255 := by decide +kernel
theorem cs_480 : (Int16.ofInt (480)).toInt32 = 480 := by decide +kernel
theorem cs_500 : (Int16.ofInt (500)).toInt32 = 500 := by decide +kernel
theorem cs_901 : (Int16.ofInt (901)).toInt32 = 901 := by decide +kernel
theorem cs_999 : (Int16.ofInt (999)).toInt32 = 999 := by decide +kernel
theorem cs_1000 : (Int16.ofInt (1000)).toInt32 = 1000 := by decide +kernel
theorem cs_9999 : (Int16.ofInt (9999)).toInt32 = 9999 := by decide +kernel
theorem kd_0 : kd 0 = 10 := by decide +kernel
theorem kd_1 : kd 1 = 7 := by decide +kernel
theorem kd_2 : kd 2 = 20 := by decide +kernel
theorem kd_3 : kd 3 = 2 := by decide +kernel
theorem kd_4 : kd 4 = 20 := by decide +kernel
theorem kd_5 : kd 5 = 4 := by decide +kernel
theorem kd_6 : kd 6 = 20 := by decide +kernel
theorem kd_7 : kd 7 = 8 := by decide +kernel
theorem kd_8 : kd 8 = 20 := by decide +kernel
theorem kd_9 : kd 9 = 20 := by decide +kernel
theorem kd_10 : kd 10 = 8 := by decide +kernel
theorem kd_11 : kd 11 = 20 := by decide +kernel
theorem kd_12 : kd 12 = 20 := by decide +kernel
theorem kd_13 : kd 13 = 8 := by decide +kernel
theorem kd_14 : kd 14 = 20 := by decide +kernel
theorem kd_15 : kd 15 = 20 := by decide +kernel
theorem kd_16 : kd 16 = 5 := by decide +kernel
theorem kd_17 : kd 17 = 20 := by decide +kernel
theorem kd_18 : kd 18 = 24 := by decide +kernel
theorem kd_19 : kd 19 = 20 := by decide +kernel
theorem kd_20 : kd 20 = 20 := by decide +kernel
theorem kd_21 : kd 21 = 20 := by decide +kernel
theorem kd_22 : kd 22 = 20 := by decide +kernel
theorem kd_23 : kd 23 = 20 := by decide +kernel
theorem kd_24 : kd 24 = 20 := by decide +kernel
theorem kd_25 : kd 25 = 6 := by decide +kernel
theorem kd_26 : kd 26 = 9 := by decide +kernel
theorem kd_27 : kd 27 = 23 := by decide +kernel
theorem kd_28 : kd 28 = 1 := by decide +kernel
theorem kd_29 : kd 29 = 20 := by decide +kernel
theorem kd_30 : kd 30 = 1 := by decide +kernel
theorem kd_31 : kd 31 = 20 := by decide +kernel
theorem kd_32 : kd 32 = 1 := by decide +kernel
theorem kd_33 : kd 33 = 20 := by decide +kernel
theorem kd_34 : kd 34 = 1 := by decide +kernel
theorem kd_35 : kd 35 = 20 := by decide +kernel
theorem kd_36 : kd 36 = 9 := by decide +kernel
theorem kd_37 : kd 37 = 23 := by decide +kernel
theorem kd_38 : kd 38 = 1 := by decide +kernel
theorem kd_39 : kd 39 = 20 := by decide +kernel
theorem kd_40 : kd 40 = 1 := by decide +kernel
theorem kd_41 : kd 41 = 20 := by decide +kernel
theorem kd_42 : kd 42 = 1 := by decide +kernel
theorem kd_43 : kd 43 = 20 := by decide +kernel
theorem kd_44 : kd 44 = 1 := by decide +kernel
theorem kd_45 : kd 45 = 20 := by decide +kernel
theorem kd_46 : kd 46 = 9 := by decide +kernel
theorem kd_47 : kd 47 = 23 := by decide +kernel
theorem kd_48 : kd 48 = 1 := by decide +kernel
theorem kd_49 : kd 49 = 20 := by decide +kernel
theorem kd_50 : kd 50 = 1 := by decide +kernel
theorem kd_51 : kd 51 = 20 := by decide +kernel
theorem kd_52 : kd 52 = 1 := by decide +kernel
theorem kd_53 : kd 53 = 20 := by decide +kernel
theorem kd_54 : kd 54 = 1 := by decide +kernel
theorem kd_55 : kd 55 = 20 := by decide +kernel
theorem kd_56 : kd 56 = 9 := by decide +kernel
theorem kd_57 : kd 57 = 23 := by decide +kernel
theorem kd_58 : kd 58 = 1 := by decide +kernel
theorem kd_59 : kd 59 = 20 := by decide +kernel
theorem kd_60 : kd 60 = 1 := by decide +kernel
theorem kd_61 : kd 61 = 20 := by decide +kernel
theorem kd_62 : kd 62 = 1 := by decide +kernel
theorem kd_63 : kd 63 = 20 := by decide +kernel
theorem kd_64 : kd 64 = 1 := by decide +kernel
theorem kd_65 : kd 65 = 20 := by decide +kernel
theorem kd_66 : kd 66 = 3 := by decide +kernel
theorem kd_67 : kd 67 = 20 := by decide +kernel
theorem kd_68 : kd 68 = 20 := by decide +kernel
theorem kd_69 : kd 69 = 3 := by decide +kernel
theorem kd_70 : kd 70 = 20 := by decide +kernel
theorem kd_71 : kd 71 = 20 := by decide +kernel
theorem kd_72 : kd 72 = 20 := by decide +kernel
theorem kd_73 : kd 73 = 0 := by decide +kernel
theorem kd_74 : kd 74 = 20 := by decide +kernel
theorem kd_75 : kd 75 = 20 := by decide +kernel
theorem kd_76 : kd 76 = 20 := by decide +kernel
theorem kd_77 : kd 77 = 20 := by decide +kernel
theorem kd_78 : kd 78 = 11 := by decide +kernel
theorem kd_79 : kd 79 = 21 := by decide +kernel
theorem kd_80 : kd 80 = 21 := by decide +kernel
theorem kd_81 : kd 81 = 20 := by decide +kernel
theorem kd_82 : kd 82 = 20 := by decide +kernel
theorem kd_83 : kd 83 = 20 := by decide +kernel
theorem kd_84 : kd 84 = 20 := by decide +kernel
theorem kd_85 : kd 85 = 20 := by decide +kernel
theorem kd_86 : kd 86 = 20 := by decide +kernel
theorem kd_87 : kd 87 = 20 := by decide +kernel
theorem kd_88 : kd 88 = 25 := by decide +kernel
theorem kd_89 : kd 89 = 20 := by decide +kernel
theorem kd_90 : kd 90 = 20 := by decide +kernel
theorem kd_91 : kd 91 = 20 := by decide +kernel
theorem kd_92 : kd 92 = 20 := by decide +kernel
theorem kd_93 : kd 93 = 20 := by decide +kernel
theorem kd_94 : kd 94 = 20 := by decide +kernel
theorem kd_95 : kd 95 = 20 := by decide +kernel
theorem kd_96 : kd 96 = 20 := by decide +kernel
theorem kd_97 : kd 97 = 20 := by decide +kernel
theorem kd_98 : kd 98 = 22 := by decide +kernel
theorem ln_0 : ln 0 = 20 := by decide +kernel
theorem ln_1 : ln 1 = 2 := by decide +kernel
theorem ln_2 : ln 2 = 160 := by decide +kernel
theorem ln_3 : ln 3 = 6 := by decide +kernel
theorem ln_4 : ln 4 = 20 := by decide +kernel
theorem ln_5 : ln 5 = 5 := by decide +kernel
theorem ln_6 : ln 6 = 160 := by decide +kernel
theorem ln_7 : ln 7 = 4 := by decide +kernel
theorem ln_8 : ln 8 = 6 := by decide +kernel
theorem ln_9 : ln 9 = 120 := by decide +kernel
theorem ln_10 : ln 10 = 4 := by decide +kernel
theorem ln_11 : ln 11 = 6 := by decide +kernel
theorem ln_12 : ln 12 = 120 := by decide +kernel
theorem ln_13 : ln 13 = 4 := by decide +kernel
theorem ln_14 : ln 14 = 6 := by decide +kernel
theorem ln_15 : ln 15 = 120 := by decide +kernel
theorem ln_16 : ln 16 = 6 := by decide +kernel
theorem ln_17 : ln 17 = 6 := by decide +kernel
theorem ln_18 : ln 18 = 4 := by decide +kernel
theorem ln_19 : ln 19 = 160 := by decide +kernel
theorem ln_20 : ln 20 = 160 := by decide +kernel
theorem ln_21 : ln 21 = 160 := by decide +kernel
theorem ln_22 : ln 22 = 160 := by decide +kernel
theorem ln_23 : ln 23 = 4 := by decide +kernel
theorem ln_24 : ln 24 = 160 := by decide +kernel
theorem ln_25 : ln 25 = 3 := by decide +kernel
theorem ln_26 : ln 26 = 7 := by decide +kernel
theorem ln_27 : ln 27 = 4 := by decide +kernel
theorem ln_28 : ln 28 = 14 := by decide +kernel
theorem ln_29 : ln 29 = 12 := by decide +kernel
theorem ln_30 : ln 30 = 14 := by decide +kernel
theorem ln_31 : ln 31 = 12 := by decide +kernel
theorem ln_32 : ln 32 = 14 := by decide +kernel
theorem ln_33 : ln 33 = 12 := by decide +kernel
theorem ln_34 : ln 34 = 14 := by decide +kernel
theorem ln_35 : ln 35 = 12 := by decide +kernel
theorem ln_36 : ln 36 = 7 := by decide +kernel
theorem ln_37 : ln 37 = 4 := by decide +kernel
theorem ln_38 : ln 38 = 14 := by decide +kernel
theorem ln_39 : ln 39 = 12 := by decide +kernel
theorem ln_40 : ln 40 = 14 := by decide +kernel
theorem ln_41 : ln 41 = 12 := by decide +kernel
theorem ln_42 : ln 42 = 14 := by decide +kernel
theorem ln_43 : ln 43 = 12 := by decide +kernel
theorem ln_44 : ln 44 = 14 := by decide +kernel
theorem ln_45 : ln 45 = 12 := by decide +kernel
theorem ln_46 : ln 46 = 7 := by decide +kernel
theorem ln_47 : ln 47 = 4 := by decide +kernel
theorem ln_48 : ln 48 = 14 := by decide +kernel
theorem ln_49 : ln 49 = 12 := by decide +kernel
theorem ln_50 : ln 50 = 14 := by decide +kernel
theorem ln_51 : ln 51 = 12 := by decide +kernel
theorem ln_52 : ln 52 = 14 := by decide +kernel
theorem ln_53 : ln 53 = 12 := by decide +kernel
theorem ln_54 : ln 54 = 14 := by decide +kernel
theorem ln_55 : ln 55 = 12 := by decide +kernel
theorem ln_56 : ln 56 = 7 := by decide +kernel
theorem ln_57 : ln 57 = 4 := by decide +kernel
theorem ln_58 : ln 58 = 14 := by decide +kernel
theorem ln_59 : ln 59 = 12 := by decide +kernel
theorem ln_60 : ln 60 = 14 := by decide +kernel
theorem ln_61 : ln 61 = 12 := by decide +kernel
theorem ln_62 : ln 62 = 14 := by decide +kernel
theorem ln_63 : ln 63 = 12 := by decide +kernel
theorem ln_64 : ln 64 = 14 := by decide +kernel
theorem ln_65 : ln 65 = 12 := by decide +kernel
theorem ln_66 : ln 66 = 3 := by decide +kernel
theorem ln_67 : ln 67 = 6 := by decide +kernel
theorem ln_68 : ln 68 = 6 := by decide +kernel
theorem ln_69 : ln 69 = 3 := by decide +kernel
theorem ln_70 : ln 70 = 6 := by decide +kernel
theorem ln_71 : ln 71 = 6 := by decide +kernel
theorem ln_72 : ln 72 = 20 := by decide +kernel
theorem ln_73 : ln 73 = 2 := by decide +kernel
theorem ln_74 : ln 74 = 60 := by decide +kernel
theorem ln_75 : ln 75 = 8 := by decide +kernel
theorem ln_76 : ln 76 = 3 := by decide +kernel
theorem ln_77 : ln 77 = 3 := by decide +kernel
theorem ln_78 : ln 78 = 52 := by decide +kernel
theorem ln_79 : ln 79 = 160 := by decide +kernel
theorem ln_80 : ln 80 = 640 := by decide +kernel
theorem ln_81 : ln 81 = 4 := by decide +kernel
theorem ln_82 : ln 82 = 128 := by decide +kernel
theorem ln_83 : ln 83 = 35 := by decide +kernel
theorem ln_84 : ln 84 = 80 := by decide +kernel
theorem ln_85 : ln 85 = 140 := by decide +kernel
theorem ln_86 : ln 86 = 4 := by decide +kernel
theorem ln_87 : ln 87 = 7 := by decide +kernel
theorem ln_88 : ln 88 = 3 := by decide +kernel
theorem ln_89 : ln 89 = 81 := by decide +kernel
theorem ln_90 : ln 90 = 81 := by decide +kernel
theorem ln_91 : ln 91 = 81 := by decide +kernel
theorem ln_92 : ln 92 = 6 := by decide +kernel
theorem ln_93 : ln 93 = 6 := by decide +kernel
theorem ln_94 : ln 94 = 20 := by decide +kernel
theorem ln_95 : ln 95 = 60 := by decide +kernel
theorem ln_96 : ln 96 = 6 := by decide +kernel
theorem ln_97 : ln 97 = 6 := by decide +kernel
theorem ln_98 : ln 98 = 1 := by decide +kernel
theorem R0_0_0 : R0 0 0 = 1 := by decide +kernel
theorem R0_0_1 : R0 0 1 = 3 := by decide +kernel
theorem R0_0_2 : R0 0 2 = 5 := by decide +kernel
theorem R0_0_3 : R0 0 3 = 7 := by decide +kernel
theorem R0_0_4 : R0 0 4 = 10 := by decide +kernel
theorem R0_0_5 : R0 0 5 = 13 := by decide +kernel
theorem R0_0_6 : R0 0 6 = 16 := by decide +kernel
theorem R0_0_7 : R0 0 7 = 25 := by decide +kernel
theorem R0_0_8 : R0 0 8 = 26 := by decide +kernel
theorem R0_0_9 : R0 0 9 = 36 := by decide +kernel
theorem R0_0_10 : R0 0 10 = 46 := by decide +kernel
theorem R0_0_11 : R0 0 11 = 56 := by decide +kernel
theorem R0_0_12 : R0 0 12 = 66 := by decide +kernel
theorem R0_0_13 : R0 0 13 = 69 := by decide +kernel
theorem R0_0_14 : R0 0 14 = 72 := by decide +kernel
theorem R0_0_16 : R0 0 16 = 73 := by decide +kernel
theorem R0_0_17 : R0 0 17 = 75 := by decide +kernel
theorem R0_0_18 : R0 0 18 = 76 := by decide +kernel
theorem R0_0_19 : R0 0 19 = 77 := by decide +kernel
theorem R0_1_0 : R0 1 0 = 2 := by decide +kernel
theorem R0_3_0 : R0 3 0 = 1 := by decide +kernel
theorem R0_3_3 : R0 3 3 = 4 := by decide +kernel
theorem R0_5_0 : R0 5 0 = 1 := by decide +kernel
theorem R0_5_3 : R0 5 3 = 6 := by decide +kernel
theorem R0_7_1 : R0 7 1 = 8 := by decide +kernel
theorem R0_7_2 : R0 7 2 = 9 := by decide +kernel
theorem R0_10_1 : R0 10 1 = 11 := by decide +kernel
theorem R0_10_2 : R0 10 2 = 12 := by decide +kernel
theorem R0_13_1 : R0 13 1 = 14 := by decide +kernel
theorem R0_13_2 : R0 13 2 = 15 := by decide +kernel
theorem R0_16_0 : R0 16 0 = 17 := by decide +kernel
theorem R0_16_2 : R0 16 2 = 18 := by decide +kernel
theorem R0_16_3 : R0 16 3 = 23 := by decide +kernel
theorem R0_16_4 : R0 16 4 = 24 := by decide +kernel
theorem R0_26_0 : R0 26 0 = 27 := by decide +kernel
theorem R0_26_6 : R0 26 6 = 25 := by decide +kernel
theorem R0_28_0 : R0 28 0 = 29 := by decide +kernel
theorem R0_30_0 : R0 30 0 = 31 := by decide +kernel
theorem R0_32_0 : R0 32 0 = 33 := by decide +kernel
theorem R0_34_0 : R0 34 0 = 35 := by decide +kernel
theorem R0_36_0 : R0 36 0 = 37 := by decide +kernel
theorem R0_36_6 : R0 36 6 = 25 := by decide +kernel
theorem R0_38_0 : R0 38 0 = 39 := by decide +kernel
theorem R0_40_0 : R0 40 0 = 41 := by decide +kernel
theorem R0_42_0 : R0 42 0 = 43 := by decide +kernel
theorem R0_44_0 : R0 44 0 = 45 := by decide +kernel
theorem R0_46_0 : R0 46 0 = 47 := by decide +kernel
theorem R0_46_6 : R0 46 6 = 25 := by decide +kernel
theorem R0_48_0 : R0 48 0 = 49 := by decide +kernel
theorem R0_50_0 : R0 50 0 = 51 := by decide +kernel
theorem R0_52_0 : R0 52 0 = 53 := by decide +kernel
theorem R0_54_0 : R0 54 0 = 55 := by decide +kernel
theorem R0_56_0 : R0 56 0 = 57 := by decide +kernel
theorem R0_56_6 : R0 56 6 = 25 := by decide +kernel
theorem R0_58_0 : R0 58 0 = 59 := by decide +kernel
theorem R0_60_0 : R0 60 0 = 61 := by decide +kernel
theorem R0_62_0 : R0 62 0 = 63 := by decide +kernel
theorem R0_64_0 : R0 64 0 = 65 := by decide +kernel
theorem R0_66_0 : R0 66 0 = 67 := by decide +kernel
theorem R0_66_1 : R0 66 1 = 68 := by decide +kernel
theorem R0_69_0 : R0 69 0 = 70 := by decide +kernel
theorem R0_69_1 : R0 69 1 = 71 := by decide +kernel
theorem R0_73_0 : R0 73 0 = 74 := by decide +kernel
theorem R0_78_1 : R0 78 1 = 79 := by decide +kernel
theorem R0_78_2 : R0 78 2 = 80 := by decide +kernel
theorem R0_78_3 : R0 78 3 = 81 := by decide +kernel
theorem R0_78_4 : R0 78 4 = 82 := by decide +kernel
theorem R0_78_15 : R0 78 15 = 105 := by decide +kernel
theorem R0_78_16 : R0 78 16 = 106 := by decide +kernel
theorem R0_78_18 : R0 78 18 = 83 := by decide +kernel
theorem R0_78_19 : R0 78 19 = 84 := by decide +kernel
theorem R0_78_20 : R0 78 20 = 85 := by decide +kernel
theorem R0_78_21 : R0 78 21 = 86 := by decide +kernel
theorem R0_78_22 : R0 78 22 = 87 := by decide +kernel
theorem R0_78_23 : R0 78 23 = 88 := by decide +kernel
theorem R0_78_30 : R0 78 30 = 89 := by decide +kernel
theorem R0_78_31 : R0 78 31 = 90 := by decide +kernel
theorem R0_78_32 : R0 78 32 = 91 := by decide +kernel
theorem R0_78_39 : R0 78 39 = 92 := by decide +kernel
theorem R0_78_40 : R0 78 40 = 93 := by decide +kernel
theorem R0_78_42 : R0 78 42 = 94 := by decide +kernel
theorem R0_78_44 : R0 78 44 = 95 := by decide +kernel
theorem R0_78_46 : R0 78 46 = 96 := by decide +kernel
theorem R0_78_47 : R0 78 47 = 97 := by decide +kernel
theorem lstr_105 : 105 ≤ 105 ∧ 105 < 110 := by omega
theorem lstr_106 : 105 ≤ 106 ∧ 106 < 110 := by omega
theorem lstr_107 : 105 ≤ 107 ∧ 107 < 110 := by omega
theorem lstr_108 : 105 ≤ 108 ∧ 108 < 110 := by omega
theorem lstr_109 : 105 ≤ 109 ∧ 109 < 110 := by omega
theorem ly_s3 {i : Nat} (h : i < 3) : 105 ≤ 107 + i ∧ 107 + i < 110 := by omega
