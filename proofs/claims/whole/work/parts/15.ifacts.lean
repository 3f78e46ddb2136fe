theorem dX0_init_0 : decode cX0_init 0 = .ok (.aload_n 0, 1) := by decide +kernel
theorem dX0_init_1 : decode cX0_init 1 = .ok (.invokespecial 1, 3) := by decide +kernel
theorem dX0_init_4 : decode cX0_init 4 = .ok (.aload_n 0, 1) := by decide +kernel
theorem dX0_init_5 : decode cX0_init 5 = .ok (.iload_n 1, 1) := by decide +kernel
theorem dX0_init_6 : decode cX0_init 6 = .ok (.putfield 7, 3) := by decide +kernel
theorem dX0_init_9 : decode cX0_init 9 = .ok (.aload_n 0, 1) := by decide +kernel
theorem dX0_init_10 : decode cX0_init 10 = .ok (.iload_n 2, 1) := by decide +kernel
theorem dX0_init_11 : decode cX0_init 11 = .ok (.putfield 13, 3) := by decide +kernel
theorem dX0_init_14 : decode cX0_init 14 = .ok (.aload_n 0, 1) := by decide +kernel
theorem dX0_init_15 : decode cX0_init 15 = .ok (.iload_n 3, 1) := by decide +kernel
theorem dX0_init_16 : decode cX0_init 16 = .ok (.putfield 16, 3) := by decide +kernel
theorem dX0_init_19 : decode cX0_init 19 = .ok (.aload_n 0, 1) := by decide +kernel
theorem dX0_init_20 : decode cX0_init 20 = .ok (.iload 4, 2) := by decide +kernel
theorem dX0_init_22 : decode cX0_init 22 = .ok (.putfield 19, 3) := by decide +kernel
theorem dX0_init_25 : decode cX0_init 25 = .ok (.return_, 1) := by decide +kernel
theorem dX1_init_0 : decode cX1_init 0 = .ok (.aload_n 0, 1) := by decide +kernel
theorem dX1_init_1 : decode cX1_init 1 = .ok (.invokespecial 3, 3) := by decide +kernel
theorem dX1_init_4 : decode cX1_init 4 = .ok (.aload_n 0, 1) := by decide +kernel
theorem dX1_init_5 : decode cX1_init 5 = .ok (.bipush 24, 2) := by decide +kernel
theorem dX1_init_7 : decode cX1_init 7 = .ok (.newarray .int, 2) := by decide +kernel
theorem dX1_init_9 : decode cX1_init 9 = .ok (.putfield 9, 3) := by decide +kernel
theorem dX1_init_12 : decode cX1_init 12 = .ok (.aload_n 0, 1) := by decide +kernel
theorem dX1_init_13 : decode cX1_init 13 = .ok (.bipush 24, 2) := by decide +kernel
theorem dX1_init_15 : decode cX1_init 15 = .ok (.newarray .int, 2) := by decide +kernel
theorem dX1_init_17 : decode cX1_init 17 = .ok (.putfield 15, 3) := by decide +kernel
theorem dX1_init_20 : decode cX1_init 20 = .ok (.aload_n 0, 1) := by decide +kernel
theorem dX1_init_21 : decode cX1_init 21 = .ok (.getfield 9, 3) := by decide +kernel
theorem dX1_init_24 : decode cX1_init 24 = .ok (.iconst (-1), 1) := by decide +kernel
theorem dX1_init_25 : decode cX1_init 25 = .ok (.invokestatic 18, 3) := by decide +kernel
theorem dX1_init_28 : decode cX1_init 28 = .ok (.aload_n 0, 1) := by decide +kernel
theorem dX1_init_29 : decode cX1_init 29 = .ok (.getfield 15, 3) := by decide +kernel
theorem dX1_init_32 : decode cX1_init 32 = .ok (.iconst (-1), 1) := by decide +kernel
theorem dX1_init_33 : decode cX1_init 33 = .ok (.invokestatic 18, 3) := by decide +kernel
theorem dX1_init_36 : decode cX1_init 36 = .ok (.return_, 1) := by decide +kernel
theorem dX2_init_0 : decode cX2_init 0 = .ok (.aload_n 0, 1) := by decide +kernel
theorem dX2_init_1 : decode cX2_init 1 = .ok (.invokespecial 3, 3) := by decide +kernel
theorem dX2_init_4 : decode cX2_init 4 = .ok (.aload_n 0, 1) := by decide +kernel
theorem dX2_init_5 : decode cX2_init 5 = .ok (.new 9, 3) := by decide +kernel
theorem dX2_init_8 : decode cX2_init 8 = .ok (.dup, 1) := by decide +kernel
theorem dX2_init_9 : decode cX2_init 9 = .ok (.invokespecial 11, 3) := by decide +kernel
theorem dX2_init_12 : decode cX2_init 12 = .ok (.putfield 12, 3) := by decide +kernel
theorem dX2_init_15 : decode cX2_init 15 = .ok (.aload_n 0, 1) := by decide +kernel
theorem dX2_init_16 : decode cX2_init 16 = .ok (.new 9, 3) := by decide +kernel
theorem dX2_init_19 : decode cX2_init 19 = .ok (.dup, 1) := by decide +kernel
theorem dX2_init_20 : decode cX2_init 20 = .ok (.invokespecial 11, 3) := by decide +kernel
theorem dX2_init_23 : decode cX2_init 23 = .ok (.putfield 18, 3) := by decide +kernel
theorem dX2_init_26 : decode cX2_init 26 = .ok (.aload_n 0, 1) := by decide +kernel
theorem dX2_init_27 : decode cX2_init 27 = .ok (.new 9, 3) := by decide +kernel
theorem dX2_init_30 : decode cX2_init 30 = .ok (.dup, 1) := by decide +kernel
theorem dX2_init_31 : decode cX2_init 31 = .ok (.invokespecial 11, 3) := by decide +kernel
theorem dX2_init_34 : decode cX2_init 34 = .ok (.putfield 21, 3) := by decide +kernel
theorem dX2_init_37 : decode cX2_init 37 = .ok (.aload_n 0, 1) := by decide +kernel
theorem dX2_init_38 : decode cX2_init 38 = .ok (.iconst 4, 1) := by decide +kernel
theorem dX2_init_39 : decode cX2_init 39 = .ok (.newarray .int, 2) := by decide +kernel
theorem dX2_init_41 : decode cX2_init 41 = .ok (.dup, 1) := by decide +kernel
theorem dX2_init_42 : decode cX2_init 42 = .ok (.iconst 0, 1) := by decide +kernel
theorem dX2_init_43 : decode cX2_init 43 = .ok (.sipush 150, 3) := by decide +kernel
theorem dX2_init_46 : decode cX2_init 46 = .ok (.iastore, 1) := by decide +kernel
theorem dX2_init_47 : decode cX2_init 47 = .ok (.dup, 1) := by decide +kernel
theorem dX2_init_48 : decode cX2_init 48 = .ok (.iconst 1, 1) := by decide +kernel
theorem dX2_init_49 : decode cX2_init 49 = .ok (.bipush 20, 2) := by decide +kernel
theorem dX2_init_51 : decode cX2_init 51 = .ok (.iastore, 1) := by decide +kernel
theorem dX2_init_52 : decode cX2_init 52 = .ok (.dup, 1) := by decide +kernel
theorem dX2_init_53 : decode cX2_init 53 = .ok (.iconst 2, 1) := by decide +kernel
theorem dX2_init_54 : decode cX2_init 54 = .ok (.bipush 10, 2) := by decide +kernel
theorem dX2_init_56 : decode cX2_init 56 = .ok (.iastore, 1) := by decide +kernel
theorem dX2_init_57 : decode cX2_init 57 = .ok (.dup, 1) := by decide +kernel
theorem dX2_init_58 : decode cX2_init 58 = .ok (.iconst 3, 1) := by decide +kernel
theorem dX2_init_59 : decode cX2_init 59 = .ok (.bipush 17, 2) := by decide +kernel
theorem dX2_init_61 : decode cX2_init 61 = .ok (.iastore, 1) := by decide +kernel
theorem dX2_init_62 : decode cX2_init 62 = .ok (.putfield 24, 3) := by decide +kernel
theorem dX2_init_65 : decode cX2_init 65 = .ok (.aload_n 0, 1) := by decide +kernel
theorem dX2_init_66 : decode cX2_init 66 = .ok (.bipush 64, 2) := by decide +kernel
theorem dX2_init_68 : decode cX2_init 68 = .ok (.newarray .int, 2) := by decide +kernel
theorem dX2_init_70 : decode cX2_init 70 = .ok (.putfield 28, 3) := by decide +kernel
theorem dX2_init_73 : decode cX2_init 73 = .ok (.aload_n 0, 1) := by decide +kernel
theorem dX2_init_74 : decode cX2_init 74 = .ok (.bipush 10, 2) := by decide +kernel
theorem dX2_init_76 : decode cX2_init 76 = .ok (.newarray .int, 2) := by decide +kernel
theorem dX2_init_78 : decode cX2_init 78 = .ok (.putfield 31, 3) := by decide +kernel
theorem dX2_init_81 : decode cX2_init 81 = .ok (.aload_n 0, 1) := by decide +kernel
theorem dX2_init_82 : decode cX2_init 82 = .ok (.bipush 10, 2) := by decide +kernel
theorem dX2_init_84 : decode cX2_init 84 = .ok (.newarray .int, 2) := by decide +kernel
theorem dX2_init_86 : decode cX2_init 86 = .ok (.putfield 34, 3) := by decide +kernel
theorem dX2_init_89 : decode cX2_init 89 = .ok (.aload_n 0, 1) := by decide +kernel
theorem dX2_init_90 : decode cX2_init 90 = .ok (.sipush 400, 3) := by decide +kernel
theorem dX2_init_93 : decode cX2_init 93 = .ok (.newarray .int, 2) := by decide +kernel
theorem dX2_init_95 : decode cX2_init 95 = .ok (.putfield 37, 3) := by decide +kernel
theorem dX2_init_98 : decode cX2_init 98 = .ok (.aload_n 0, 1) := by decide +kernel
theorem dX2_init_99 : decode cX2_init 99 = .ok (.new 40, 3) := by decide +kernel
theorem dX2_init_102 : decode cX2_init 102 = .ok (.dup, 1) := by decide +kernel
theorem dX2_init_103 : decode cX2_init 103 = .ok (.invokespecial 42, 3) := by decide +kernel
theorem dX2_init_106 : decode cX2_init 106 = .ok (.putfield 43, 3) := by decide +kernel
theorem dX2_init_109 : decode cX2_init 109 = .ok (.aload_n 0, 1) := by decide +kernel
theorem dX2_init_110 : decode cX2_init 110 = .ok (.new 40, 3) := by decide +kernel
theorem dX2_init_113 : decode cX2_init 113 = .ok (.dup, 1) := by decide +kernel
theorem dX2_init_114 : decode cX2_init 114 = .ok (.invokespecial 42, 3) := by decide +kernel
theorem dX2_init_117 : decode cX2_init 117 = .ok (.putfield 47, 3) := by decide +kernel
theorem dX2_init_120 : decode cX2_init 120 = .ok (.return_, 1) := by decide +kernel
theorem dX3_init_0 : decode cX3_init 0 = .ok (.aload_n 0, 1) := by decide +kernel
theorem dX3_init_1 : decode cX3_init 1 = .ok (.invokespecial 3, 3) := by decide +kernel
theorem dX3_init_4 : decode cX3_init 4 = .ok (.aload_n 0, 1) := by decide +kernel
theorem dX3_init_5 : decode cX3_init 5 = .ok (.new 9, 3) := by decide +kernel
theorem dX3_init_8 : decode cX3_init 8 = .ok (.dup, 1) := by decide +kernel
theorem dX3_init_9 : decode cX3_init 9 = .ok (.bipush 8, 2) := by decide +kernel
theorem dX3_init_11 : decode cX3_init 11 = .ok (.invokespecial 11, 3) := by decide +kernel
theorem dX3_init_14 : decode cX3_init 14 = .ok (.putfield 14, 3) := by decide +kernel
theorem dX3_init_17 : decode cX3_init 17 = .ok (.aload_n 0, 1) := by decide +kernel
theorem dX3_init_18 : decode cX3_init 18 = .ok (.new 9, 3) := by decide +kernel
theorem dX3_init_21 : decode cX3_init 21 = .ok (.dup, 1) := by decide +kernel
theorem dX3_init_22 : decode cX3_init 22 = .ok (.bipush 8, 2) := by decide +kernel
theorem dX3_init_24 : decode cX3_init 24 = .ok (.invokespecial 11, 3) := by decide +kernel
theorem dX3_init_27 : decode cX3_init 27 = .ok (.putfield 20, 3) := by decide +kernel
theorem dX3_init_30 : decode cX3_init 30 = .ok (.aload_n 0, 1) := by decide +kernel
theorem dX3_init_31 : decode cX3_init 31 = .ok (.new 9, 3) := by decide +kernel
theorem dX3_init_34 : decode cX3_init 34 = .ok (.dup, 1) := by decide +kernel
theorem dX3_init_35 : decode cX3_init 35 = .ok (.bipush 8, 2) := by decide +kernel
theorem dX3_init_37 : decode cX3_init 37 = .ok (.invokespecial 11, 3) := by decide +kernel
theorem dX3_init_40 : decode cX3_init 40 = .ok (.putfield 23, 3) := by decide +kernel
theorem dX3_init_43 : decode cX3_init 43 = .ok (.aload_n 0, 1) := by decide +kernel
theorem dX3_init_44 : decode cX3_init 44 = .ok (.sipush 256, 3) := by decide +kernel
theorem dX3_init_47 : decode cX3_init 47 = .ok (.newarray .int, 2) := by decide +kernel
theorem dX3_init_49 : decode cX3_init 49 = .ok (.putfield 26, 3) := by decide +kernel
theorem dX3_init_52 : decode cX3_init 52 = .ok (.aload_n 0, 1) := by decide +kernel
theorem dX3_init_53 : decode cX3_init 53 = .ok (.sipush 256, 3) := by decide +kernel
theorem dX3_init_56 : decode cX3_init 56 = .ok (.newarray .int, 2) := by decide +kernel
theorem dX3_init_58 : decode cX3_init 58 = .ok (.putfield 30, 3) := by decide +kernel
theorem dX3_init_61 : decode cX3_init 61 = .ok (.aload_n 0, 1) := by decide +kernel
theorem dX3_init_62 : decode cX3_init 62 = .ok (.sipush 256, 3) := by decide +kernel
theorem dX3_init_65 : decode cX3_init 65 = .ok (.newarray .int, 2) := by decide +kernel
theorem dX3_init_67 : decode cX3_init 67 = .ok (.putfield 33, 3) := by decide +kernel
theorem dX3_init_70 : decode cX3_init 70 = .ok (.aload_n 0, 1) := by decide +kernel
theorem dX3_init_71 : decode cX3_init 71 = .ok (.sipush 256, 3) := by decide +kernel
theorem dX3_init_74 : decode cX3_init 74 = .ok (.newarray .boolean, 2) := by decide +kernel
theorem dX3_init_76 : decode cX3_init 76 = .ok (.putfield 36, 3) := by decide +kernel
theorem dX3_init_79 : decode cX3_init 79 = .ok (.aload_n 0, 1) := by decide +kernel
theorem dX3_init_80 : decode cX3_init 80 = .ok (.aload_n 1, 1) := by decide +kernel
theorem dX3_init_81 : decode cX3_init 81 = .ok (.putfield 40, 3) := by decide +kernel
theorem dX3_init_84 : decode cX3_init 84 = .ok (.return_, 1) := by decide +kernel
theorem dX4_init_0 : decode cX4_init 0 = .ok (.aload_n 0, 1) := by decide +kernel
theorem dX4_init_1 : decode cX4_init 1 = .ok (.invokespecial 3, 3) := by decide +kernel
theorem dX4_init_4 : decode cX4_init 4 = .ok (.aload_n 0, 1) := by decide +kernel
theorem dX4_init_5 : decode cX4_init 5 = .ok (.iload_n 1, 1) := by decide +kernel
theorem dX4_init_6 : decode cX4_init 6 = .ok (.newarray .int, 2) := by decide +kernel
theorem dX4_init_8 : decode cX4_init 8 = .ok (.putfield 9, 3) := by decide +kernel
theorem dX4_init_11 : decode cX4_init 11 = .ok (.return_, 1) := by decide +kernel
theorem dX5_init_0 : decode cX5_init 0 = .ok (.aload_n 0, 1) := by decide +kernel
theorem dX5_init_1 : decode cX5_init 1 = .ok (.invokespecial 3, 3) := by decide +kernel
theorem dX5_init_4 : decode cX5_init 4 = .ok (.aload_n 0, 1) := by decide +kernel
theorem dX5_init_5 : decode cX5_init 5 = .ok (.iconst (-1), 1) := by decide +kernel
theorem dX5_init_6 : decode cX5_init 6 = .ok (.putfield 9, 3) := by decide +kernel
theorem dX5_init_9 : decode cX5_init 9 = .ok (.aload_n 0, 1) := by decide +kernel
theorem dX5_init_10 : decode cX5_init 10 = .ok (.iconst (-1), 1) := by decide +kernel
theorem dX5_init_11 : decode cX5_init 11 = .ok (.putfield 15, 3) := by decide +kernel
theorem dX5_init_14 : decode cX5_init 14 = .ok (.aload_n 0, 1) := by decide +kernel
theorem dX5_init_15 : decode cX5_init 15 = .ok (.ldc 18, 2) := by decide +kernel
theorem dX5_init_17 : decode cX5_init 17 = .ok (.putfield 19, 3) := by decide +kernel
theorem dX5_init_20 : decode cX5_init 20 = .ok (.aload_n 0, 1) := by decide +kernel
theorem dX5_init_21 : decode cX5_init 21 = .ok (.sipush 400, 3) := by decide +kernel
theorem dX5_init_24 : decode cX5_init 24 = .ok (.putfield 22, 3) := by decide +kernel
theorem dX5_init_27 : decode cX5_init 27 = .ok (.aload_n 0, 1) := by decide +kernel
theorem dX5_init_28 : decode cX5_init 28 = .ok (.iconst 0, 1) := by decide +kernel
theorem dX5_init_29 : decode cX5_init 29 = .ok (.putfield 25, 3) := by decide +kernel
theorem dX5_init_32 : decode cX5_init 32 = .ok (.aload_n 0, 1) := by decide +kernel
theorem dX5_init_33 : decode cX5_init 33 = .ok (.iload_n 1, 1) := by decide +kernel
theorem dX5_init_34 : decode cX5_init 34 = .ok (.putfield 28, 3) := by decide +kernel
theorem dX5_init_37 : decode cX5_init 37 = .ok (.return_, 1) := by decide +kernel
theorem dX6_init_0 : decode cX6_init 0 = .ok (.aload_n 0, 1) := by decide +kernel
theorem dX6_init_1 : decode cX6_init 1 = .ok (.invokespecial 3, 3) := by decide +kernel
theorem dX6_init_4 : decode cX6_init 4 = .ok (.aload_n 0, 1) := by decide +kernel
theorem dX6_init_5 : decode cX6_init 5 = .ok (.new 9, 3) := by decide +kernel
theorem dX6_init_8 : decode cX6_init 8 = .ok (.dup, 1) := by decide +kernel
theorem dX6_init_9 : decode cX6_init 9 = .ok (.bipush 7, 2) := by decide +kernel
theorem dX6_init_11 : decode cX6_init 11 = .ok (.invokespecial 11, 3) := by decide +kernel
theorem dX6_init_14 : decode cX6_init 14 = .ok (.putfield 14, 3) := by decide +kernel
theorem dX6_init_17 : decode cX6_init 17 = .ok (.aload_n 0, 1) := by decide +kernel
theorem dX6_init_18 : decode cX6_init 18 = .ok (.bipush 7, 2) := by decide +kernel
theorem dX6_init_20 : decode cX6_init 20 = .ok (.newarray .int, 2) := by decide +kernel
theorem dX6_init_22 : decode cX6_init 22 = .ok (.putfield 20, 3) := by decide +kernel
theorem dX6_init_25 : decode cX6_init 25 = .ok (.aload_n 0, 1) := by decide +kernel
theorem dX6_init_26 : decode cX6_init 26 = .ok (.bipush 49, 2) := by decide +kernel
theorem dX6_init_28 : decode cX6_init 28 = .ok (.newarray .int, 2) := by decide +kernel
theorem dX6_init_30 : decode cX6_init 30 = .ok (.putfield 24, 3) := by decide +kernel
theorem dX6_init_33 : decode cX6_init 33 = .ok (.aload_n 0, 1) := by decide +kernel
theorem dX6_init_34 : decode cX6_init 34 = .ok (.sipush 896, 3) := by decide +kernel
theorem dX6_init_37 : decode cX6_init 37 = .ok (.newarray .int, 2) := by decide +kernel
theorem dX6_init_39 : decode cX6_init 39 = .ok (.putfield 27, 3) := by decide +kernel
theorem dX6_init_42 : decode cX6_init 42 = .ok (.aload_n 0, 1) := by decide +kernel
theorem dX6_init_43 : decode cX6_init 43 = .ok (.new 9, 3) := by decide +kernel
theorem dX6_init_46 : decode cX6_init 46 = .ok (.dup, 1) := by decide +kernel
theorem dX6_init_47 : decode cX6_init 47 = .ok (.bipush 7, 2) := by decide +kernel
theorem dX6_init_49 : decode cX6_init 49 = .ok (.invokespecial 11, 3) := by decide +kernel
theorem dX6_init_52 : decode cX6_init 52 = .ok (.putfield 30, 3) := by decide +kernel
theorem dX6_init_55 : decode cX6_init 55 = .ok (.aload_n 0, 1) := by decide +kernel
theorem dX6_init_56 : decode cX6_init 56 = .ok (.new 9, 3) := by decide +kernel
theorem dX6_init_59 : decode cX6_init 59 = .ok (.dup, 1) := by decide +kernel
theorem dX6_init_60 : decode cX6_init 60 = .ok (.bipush 7, 2) := by decide +kernel
theorem dX6_init_62 : decode cX6_init 62 = .ok (.invokespecial 11, 3) := by decide +kernel
theorem dX6_init_65 : decode cX6_init 65 = .ok (.putfield 33, 3) := by decide +kernel
theorem dX6_init_68 : decode cX6_init 68 = .ok (.aload_n 0, 1) := by decide +kernel
theorem dX6_init_69 : decode cX6_init 69 = .ok (.iconst (-1), 1) := by decide +kernel
theorem dX6_init_70 : decode cX6_init 70 = .ok (.putfield 36, 3) := by decide +kernel
theorem dX6_init_73 : decode cX6_init 73 = .ok (.aload_n 0, 1) := by decide +kernel
theorem dX6_init_74 : decode cX6_init 74 = .ok (.aload_n 1, 1) := by decide +kernel
theorem dX6_init_75 : decode cX6_init 75 = .ok (.putfield 40, 3) := by decide +kernel
theorem dX6_init_78 : decode cX6_init 78 = .ok (.return_, 1) := by decide +kernel
theorem dX7_init_0 : decode cX7_init 0 = .ok (.aload_n 0, 1) := by decide +kernel
theorem dX7_init_1 : decode cX7_init 1 = .ok (.invokespecial 1, 3) := by decide +kernel
theorem dX7_init_4 : decode cX7_init 4 = .ok (.aload_n 0, 1) := by decide +kernel
theorem dX7_init_5 : decode cX7_init 5 = .ok (.iload_n 1, 1) := by decide +kernel
theorem dX7_init_6 : decode cX7_init 6 = .ok (.putfield 7, 3) := by decide +kernel
theorem dX7_init_9 : decode cX7_init 9 = .ok (.aload_n 0, 1) := by decide +kernel
theorem dX7_init_10 : decode cX7_init 10 = .ok (.iload_n 2, 1) := by decide +kernel
theorem dX7_init_11 : decode cX7_init 11 = .ok (.putfield 13, 3) := by decide +kernel
theorem dX7_init_14 : decode cX7_init 14 = .ok (.aload_n 0, 1) := by decide +kernel
theorem dX7_init_15 : decode cX7_init 15 = .ok (.aload_n 3, 1) := by decide +kernel
theorem dX7_init_16 : decode cX7_init 16 = .ok (.putfield 16, 3) := by decide +kernel
theorem dX7_init_19 : decode cX7_init 19 = .ok (.return_, 1) := by decide +kernel
theorem dX8_init_0 : decode cX8_init 0 = .ok (.aload_n 0, 1) := by decide +kernel
theorem dX8_init_1 : decode cX8_init 1 = .ok (.invokespecial 3, 3) := by decide +kernel
theorem dX8_init_4 : decode cX8_init 4 = .ok (.aload_n 0, 1) := by decide +kernel
theorem dX8_init_5 : decode cX8_init 5 = .ok (.new 9, 3) := by decide +kernel
theorem dX8_init_8 : decode cX8_init 8 = .ok (.dup, 1) := by decide +kernel
theorem dX8_init_9 : decode cX8_init 9 = .ok (.bipush 61, 2) := by decide +kernel
theorem dX8_init_11 : decode cX8_init 11 = .ok (.invokespecial 11, 3) := by decide +kernel
theorem dX8_init_14 : decode cX8_init 14 = .ok (.putfield 14, 3) := by decide +kernel
theorem dX8_init_17 : decode cX8_init 17 = .ok (.aload_n 0, 1) := by decide +kernel
theorem dX8_init_18 : decode cX8_init 18 = .ok (.new 9, 3) := by decide +kernel
theorem dX8_init_21 : decode cX8_init 21 = .ok (.dup, 1) := by decide +kernel
theorem dX8_init_22 : decode cX8_init 22 = .ok (.bipush 60, 2) := by decide +kernel
theorem dX8_init_24 : decode cX8_init 24 = .ok (.invokespecial 11, 3) := by decide +kernel
theorem dX8_init_27 : decode cX8_init 27 = .ok (.putfield 20, 3) := by decide +kernel
theorem dX8_init_30 : decode cX8_init 30 = .ok (.return_, 1) := by decide +kernel
theorem dX9_init_0 : decode cX9_init 0 = .ok (.aload_n 0, 1) := by decide +kernel
theorem dX9_init_1 : decode cX9_init 1 = .ok (.invokespecial 3, 3) := by decide +kernel
theorem dX9_init_4 : decode cX9_init 4 = .ok (.aload_n 0, 1) := by decide +kernel
theorem dX9_init_5 : decode cX9_init 5 = .ok (.new 9, 3) := by decide +kernel
theorem dX9_init_8 : decode cX9_init 8 = .ok (.dup, 1) := by decide +kernel
theorem dX9_init_9 : decode cX9_init 9 = .ok (.invokespecial 11, 3) := by decide +kernel
theorem dX9_init_12 : decode cX9_init 12 = .ok (.putfield 12, 3) := by decide +kernel
theorem dX9_init_15 : decode cX9_init 15 = .ok (.aload_n 0, 1) := by decide +kernel
theorem dX9_init_16 : decode cX9_init 16 = .ok (.new 18, 3) := by decide +kernel
theorem dX9_init_19 : decode cX9_init 19 = .ok (.dup, 1) := by decide +kernel
theorem dX9_init_20 : decode cX9_init 20 = .ok (.invokespecial 20, 3) := by decide +kernel
theorem dX9_init_23 : decode cX9_init 23 = .ok (.putfield 21, 3) := by decide +kernel
theorem dX9_init_26 : decode cX9_init 26 = .ok (.aload_n 0, 1) := by decide +kernel
theorem dX9_init_27 : decode cX9_init 27 = .ok (.ldc 25, 2) := by decide +kernel
theorem dX9_init_29 : decode cX9_init 29 = .ok (.invokevirtual 27, 3) := by decide +kernel
theorem dX9_init_32 : decode cX9_init 32 = .ok (.newarray .int, 2) := by decide +kernel
theorem dX9_init_34 : decode cX9_init 34 = .ok (.putfield 33, 3) := by decide +kernel
theorem dX9_init_37 : decode cX9_init 37 = .ok (.aload_n 0, 1) := by decide +kernel
theorem dX9_init_38 : decode cX9_init 38 = .ok (.new 37, 3) := by decide +kernel
theorem dX9_init_41 : decode cX9_init 41 = .ok (.dup, 1) := by decide +kernel
theorem dX9_init_42 : decode cX9_init 42 = .ok (.bipush 60, 2) := by decide +kernel
theorem dX9_init_44 : decode cX9_init 44 = .ok (.invokespecial 39, 3) := by decide +kernel
theorem dX9_init_47 : decode cX9_init 47 = .ok (.putfield 42, 3) := by decide +kernel
theorem dX9_init_50 : decode cX9_init 50 = .ok (.aload_n 0, 1) := by decide +kernel
theorem dX9_init_51 : decode cX9_init 51 = .ok (.aload_n 1, 1) := by decide +kernel
theorem dX9_init_52 : decode cX9_init 52 = .ok (.putfield 46, 3) := by decide +kernel
theorem dX9_init_55 : decode cX9_init 55 = .ok (.return_, 1) := by decide +kernel
theorem dX10_init_0 : decode cX10_init 0 = .ok (.aload_n 0, 1) := by decide +kernel
theorem dX10_init_1 : decode cX10_init 1 = .ok (.invokespecial 3, 3) := by decide +kernel
theorem dX10_init_4 : decode cX10_init 4 = .ok (.aload_n 0, 1) := by decide +kernel
theorem dX10_init_5 : decode cX10_init 5 = .ok (.bipush 24, 2) := by decide +kernel
theorem dX10_init_7 : decode cX10_init 7 = .ok (.newarray .int, 2) := by decide +kernel
theorem dX10_init_9 : decode cX10_init 9 = .ok (.putfield 9, 3) := by decide +kernel
theorem dX10_init_12 : decode cX10_init 12 = .ok (.aload_n 0, 1) := by decide +kernel
theorem dX10_init_13 : decode cX10_init 13 = .ok (.iconst 1, 1) := by decide +kernel
theorem dX10_init_14 : decode cX10_init 14 = .ok (.putfield 15, 3) := by decide +kernel
theorem dX10_init_17 : decode cX10_init 17 = .ok (.aload_n 0, 1) := by decide +kernel
theorem dX10_init_18 : decode cX10_init 18 = .ok (.iconst 0, 1) := by decide +kernel
theorem dX10_init_19 : decode cX10_init 19 = .ok (.putfield 19, 3) := by decide +kernel
theorem dX10_init_22 : decode cX10_init 22 = .ok (.aload_n 0, 1) := by decide +kernel
theorem dX10_init_23 : decode cX10_init 23 = .ok (.iload_n 1, 1) := by decide +kernel
theorem dX10_init_24 : decode cX10_init 24 = .ok (.putfield 22, 3) := by decide +kernel
theorem dX10_init_27 : decode cX10_init 27 = .ok (.aload_n 0, 1) := by decide +kernel
theorem dX10_init_28 : decode cX10_init 28 = .ok (.iload_n 2, 1) := by decide +kernel
theorem dX10_init_29 : decode cX10_init 29 = .ok (.putfield 25, 3) := by decide +kernel
theorem dX10_init_32 : decode cX10_init 32 = .ok (.aload_n 0, 1) := by decide +kernel
theorem dX10_init_33 : decode cX10_init 33 = .ok (.iconst 1, 1) := by decide +kernel
theorem dX10_init_34 : decode cX10_init 34 = .ok (.iload_n 2, 1) := by decide +kernel
theorem dX10_init_35 : decode cX10_init 35 = .ok (.ishl, 1) := by decide +kernel
theorem dX10_init_36 : decode cX10_init 36 = .ok (.putfield 28, 3) := by decide +kernel
theorem dX10_init_39 : decode cX10_init 39 = .ok (.return_, 1) := by decide +kernel
theorem dX11_init_0 : decode cX11_init 0 = .ok (.aload_n 0, 1) := by decide +kernel
theorem dX11_init_1 : decode cX11_init 1 = .ok (.invokespecial 1, 3) := by decide +kernel
theorem dX11_init_4 : decode cX11_init 4 = .ok (.aload_n 0, 1) := by decide +kernel
theorem dX11_init_5 : decode cX11_init 5 = .ok (.new 7, 3) := by decide +kernel
theorem dX11_init_8 : decode cX11_init 8 = .ok (.dup, 1) := by decide +kernel
theorem dX11_init_9 : decode cX11_init 9 = .ok (.invokespecial 9, 3) := by decide +kernel
theorem dX11_init_12 : decode cX11_init 12 = .ok (.putfield 10, 3) := by decide +kernel
theorem dX11_init_15 : decode cX11_init 15 = .ok (.aload_n 0, 1) := by decide +kernel
theorem dX11_init_16 : decode cX11_init 16 = .ok (.new 16, 3) := by decide +kernel
theorem dX11_init_19 : decode cX11_init 19 = .ok (.dup, 1) := by decide +kernel
theorem dX11_init_20 : decode cX11_init 20 = .ok (.aload_n 0, 1) := by decide +kernel
theorem dX11_init_21 : decode cX11_init 21 = .ok (.getfield 10, 3) := by decide +kernel
theorem dX11_init_24 : decode cX11_init 24 = .ok (.invokespecial 18, 3) := by decide +kernel
theorem dX11_init_27 : decode cX11_init 27 = .ok (.putfield 21, 3) := by decide +kernel
theorem dX11_init_30 : decode cX11_init 30 = .ok (.aload_n 0, 1) := by decide +kernel
theorem dX11_init_31 : decode cX11_init 31 = .ok (.new 25, 3) := by decide +kernel
theorem dX11_init_34 : decode cX11_init 34 = .ok (.dup, 1) := by decide +kernel
theorem dX11_init_35 : decode cX11_init 35 = .ok (.aload_n 0, 1) := by decide +kernel
theorem dX11_init_36 : decode cX11_init 36 = .ok (.getfield 10, 3) := by decide +kernel
theorem dX11_init_39 : decode cX11_init 39 = .ok (.invokespecial 27, 3) := by decide +kernel
theorem dX11_init_42 : decode cX11_init 42 = .ok (.putfield 28, 3) := by decide +kernel
theorem dX11_init_45 : decode cX11_init 45 = .ok (.aload_n 0, 1) := by decide +kernel
theorem dX11_init_46 : decode cX11_init 46 = .ok (.new 32, 3) := by decide +kernel
theorem dX11_init_49 : decode cX11_init 49 = .ok (.dup, 1) := by decide +kernel
theorem dX11_init_50 : decode cX11_init 50 = .ok (.aload_n 0, 1) := by decide +kernel
theorem dX11_init_51 : decode cX11_init 51 = .ok (.getfield 10, 3) := by decide +kernel
theorem dX11_init_54 : decode cX11_init 54 = .ok (.invokespecial 34, 3) := by decide +kernel
theorem dX11_init_57 : decode cX11_init 57 = .ok (.putfield 35, 3) := by decide +kernel
theorem dX11_init_60 : decode cX11_init 60 = .ok (.aload_n 0, 1) := by decide +kernel
theorem dX11_init_61 : decode cX11_init 61 = .ok (.new 39, 3) := by decide +kernel
theorem dX11_init_64 : decode cX11_init 64 = .ok (.dup, 1) := by decide +kernel
theorem dX11_init_65 : decode cX11_init 65 = .ok (.bipush 32, 2) := by decide +kernel
theorem dX11_init_67 : decode cX11_init 67 = .ok (.invokespecial 41, 3) := by decide +kernel
theorem dX11_init_70 : decode cX11_init 70 = .ok (.putfield 44, 3) := by decide +kernel
theorem dX11_init_73 : decode cX11_init 73 = .ok (.aload_n 0, 1) := by decide +kernel
theorem dX11_init_74 : decode cX11_init 74 = .ok (.new 39, 3) := by decide +kernel
theorem dX11_init_77 : decode cX11_init 77 = .ok (.dup, 1) := by decide +kernel
theorem dX11_init_78 : decode cX11_init 78 = .ok (.bipush 100, 2) := by decide +kernel
theorem dX11_init_80 : decode cX11_init 80 = .ok (.invokespecial 41, 3) := by decide +kernel
theorem dX11_init_83 : decode cX11_init 83 = .ok (.putfield 48, 3) := by decide +kernel
theorem dX11_init_86 : decode cX11_init 86 = .ok (.aload_n 0, 1) := by decide +kernel
theorem dX11_init_87 : decode cX11_init 87 = .ok (.new 39, 3) := by decide +kernel
theorem dX11_init_90 : decode cX11_init 90 = .ok (.dup, 1) := by decide +kernel
theorem dX11_init_91 : decode cX11_init 91 = .ok (.bipush 12, 2) := by decide +kernel
theorem dX11_init_93 : decode cX11_init 93 = .ok (.invokespecial 41, 3) := by decide +kernel
theorem dX11_init_96 : decode cX11_init 96 = .ok (.putfield 51, 3) := by decide +kernel
theorem dX11_init_99 : decode cX11_init 99 = .ok (.aload_n 0, 1) := by decide +kernel
theorem dX11_init_100 : decode cX11_init 100 = .ok (.new 39, 3) := by decide +kernel
theorem dX11_init_103 : decode cX11_init 103 = .ok (.dup, 1) := by decide +kernel
theorem dX11_init_104 : decode cX11_init 104 = .ok (.bipush 10, 2) := by decide +kernel
theorem dX11_init_106 : decode cX11_init 106 = .ok (.invokespecial 41, 3) := by decide +kernel
theorem dX11_init_109 : decode cX11_init 109 = .ok (.putfield 54, 3) := by decide +kernel
theorem dX11_init_112 : decode cX11_init 112 = .ok (.aload_n 0, 1) := by decide +kernel
theorem dX11_init_113 : decode cX11_init 113 = .ok (.bipush 12, 2) := by decide +kernel
theorem dX11_init_115 : decode cX11_init 115 = .ok (.newarray .int, 2) := by decide +kernel
theorem dX11_init_117 : decode cX11_init 117 = .ok (.putfield 57, 3) := by decide +kernel
theorem dX11_init_120 : decode cX11_init 120 = .ok (.aload_n 0, 1) := by decide +kernel
theorem dX11_init_121 : decode cX11_init 121 = .ok (.bipush 12, 2) := by decide +kernel
theorem dX11_init_123 : decode cX11_init 123 = .ok (.newarray .int, 2) := by decide +kernel
theorem dX11_init_125 : decode cX11_init 125 = .ok (.putfield 61, 3) := by decide +kernel
theorem dX11_init_128 : decode cX11_init 128 = .ok (.aload_n 0, 1) := by decide +kernel
theorem dX11_init_129 : decode cX11_init 129 = .ok (.bipush 24, 2) := by decide +kernel
theorem dX11_init_131 : decode cX11_init 131 = .ok (.newarray .int, 2) := by decide +kernel
theorem dX11_init_133 : decode cX11_init 133 = .ok (.putfield 64, 3) := by decide +kernel
theorem dX11_init_136 : decode cX11_init 136 = .ok (.return_, 1) := by decide +kernel
theorem dX12_init_0 : decode cX12_init 0 = .ok (.aload_n 0, 1) := by decide +kernel
theorem dX12_init_1 : decode cX12_init 1 = .ok (.invokespecial 511, 3) := by decide +kernel
theorem dX12_init_4 : decode cX12_init 4 = .ok (.aload_n 0, 1) := by decide +kernel
theorem dX12_init_5 : decode cX12_init 5 = .ok (.bipush 64, 2) := by decide +kernel
theorem dX12_init_7 : decode cX12_init 7 = .ok (.newarray .int, 2) := by decide +kernel
theorem dX12_init_9 : decode cX12_init 9 = .ok (.putfield 7, 3) := by decide +kernel
theorem dX12_init_12 : decode cX12_init 12 = .ok (.aload_n 0, 1) := by decide +kernel
theorem dX12_init_13 : decode cX12_init 13 = .ok (.bipush 20, 2) := by decide +kernel
theorem dX12_init_15 : decode cX12_init 15 = .ok (.newarray .int, 2) := by decide +kernel
theorem dX12_init_17 : decode cX12_init 17 = .ok (.putfield 39, 3) := by decide +kernel
theorem dX12_init_20 : decode cX12_init 20 = .ok (.aload_n 0, 1) := by decide +kernel
theorem dX12_init_21 : decode cX12_init 21 = .ok (.bipush 20, 2) := by decide +kernel
theorem dX12_init_23 : decode cX12_init 23 = .ok (.newarray .int, 2) := by decide +kernel
theorem dX12_init_25 : decode cX12_init 25 = .ok (.putfield 42, 3) := by decide +kernel
theorem dX12_init_28 : decode cX12_init 28 = .ok (.aload_n 0, 1) := by decide +kernel
theorem dX12_init_29 : decode cX12_init 29 = .ok (.bipush 20, 2) := by decide +kernel
theorem dX12_init_31 : decode cX12_init 31 = .ok (.newarray .int, 2) := by decide +kernel
theorem dX12_init_33 : decode cX12_init 33 = .ok (.putfield 45, 3) := by decide +kernel
theorem dX12_init_36 : decode cX12_init 36 = .ok (.aload_n 0, 1) := by decide +kernel
theorem dX12_init_37 : decode cX12_init 37 = .ok (.bipush 20, 2) := by decide +kernel
theorem dX12_init_39 : decode cX12_init 39 = .ok (.newarray .int, 2) := by decide +kernel
theorem dX12_init_41 : decode cX12_init 41 = .ok (.putfield 48, 3) := by decide +kernel
theorem dX12_init_44 : decode cX12_init 44 = .ok (.aload_n 0, 1) := by decide +kernel
theorem dX12_init_45 : decode cX12_init 45 = .ok (.bipush 16, 2) := by decide +kernel
theorem dX12_init_47 : decode cX12_init 47 = .ok (.newarray .int, 2) := by decide +kernel
theorem dX12_init_49 : decode cX12_init 49 = .ok (.putfield 57, 3) := by decide +kernel
theorem dX12_init_52 : decode cX12_init 52 = .ok (.aload_n 0, 1) := by decide +kernel
theorem dX12_init_53 : decode cX12_init 53 = .ok (.bipush 16, 2) := by decide +kernel
theorem dX12_init_55 : decode cX12_init 55 = .ok (.newarray .int, 2) := by decide +kernel
theorem dX12_init_57 : decode cX12_init 57 = .ok (.putfield 60, 3) := by decide +kernel
theorem dX12_init_60 : decode cX12_init 60 = .ok (.aload_n 0, 1) := by decide +kernel
theorem dX12_init_61 : decode cX12_init 61 = .ok (.bipush 16, 2) := by decide +kernel
theorem dX12_init_63 : decode cX12_init 63 = .ok (.newarray .int, 2) := by decide +kernel
theorem dX12_init_65 : decode cX12_init 65 = .ok (.putfield 63, 3) := by decide +kernel
theorem dX12_init_68 : decode cX12_init 68 = .ok (.aload_n 0, 1) := by decide +kernel
theorem dX12_init_69 : decode cX12_init 69 = .ok (.bipush 16, 2) := by decide +kernel
theorem dX12_init_71 : decode cX12_init 71 = .ok (.newarray .int, 2) := by decide +kernel
theorem dX12_init_73 : decode cX12_init 73 = .ok (.putfield 66, 3) := by decide +kernel
theorem dX12_init_76 : decode cX12_init 76 = .ok (.aload_n 0, 1) := by decide +kernel
theorem dX12_init_77 : decode cX12_init 77 = .ok (.sipush 384, 3) := by decide +kernel
theorem dX12_init_80 : decode cX12_init 80 = .ok (.newarray .int, 2) := by decide +kernel
theorem dX12_init_82 : decode cX12_init 82 = .ok (.putfield 78, 3) := by decide +kernel
theorem dX12_init_85 : decode cX12_init 85 = .ok (.aload_n 0, 1) := by decide +kernel
theorem dX12_init_86 : decode cX12_init 86 = .ok (.bipush 16, 2) := by decide +kernel
theorem dX12_init_88 : decode cX12_init 88 = .ok (.newarray .int, 2) := by decide +kernel
theorem dX12_init_90 : decode cX12_init 90 = .ok (.putfield 69, 3) := by decide +kernel
theorem dX12_init_93 : decode cX12_init 93 = .ok (.aload_n 0, 1) := by decide +kernel
theorem dX12_init_94 : decode cX12_init 94 = .ok (.bipush 16, 2) := by decide +kernel
theorem dX12_init_96 : decode cX12_init 96 = .ok (.newarray .int, 2) := by decide +kernel
theorem dX12_init_98 : decode cX12_init 98 = .ok (.putfield 72, 3) := by decide +kernel
theorem dX12_init_101 : decode cX12_init 101 = .ok (.aload_n 0, 1) := by decide +kernel
theorem dX12_init_102 : decode cX12_init 102 = .ok (.iconst 4, 1) := by decide +kernel
theorem dX12_init_103 : decode cX12_init 103 = .ok (.newarray .int, 2) := by decide +kernel
theorem dX12_init_105 : decode cX12_init 105 = .ok (.dup, 1) := by decide +kernel
theorem dX12_init_106 : decode cX12_init 106 = .ok (.iconst 0, 1) := by decide +kernel
theorem dX12_init_107 : decode cX12_init 107 = .ok (.sipush 150, 3) := by decide +kernel
theorem dX12_init_110 : decode cX12_init 110 = .ok (.iastore, 1) := by decide +kernel
theorem dX12_init_111 : decode cX12_init 111 = .ok (.dup, 1) := by decide +kernel
theorem dX12_init_112 : decode cX12_init 112 = .ok (.iconst 1, 1) := by decide +kernel
theorem dX12_init_113 : decode cX12_init 113 = .ok (.bipush 20, 2) := by decide +kernel
theorem dX12_init_115 : decode cX12_init 115 = .ok (.iastore, 1) := by decide +kernel
theorem dX12_init_116 : decode cX12_init 116 = .ok (.dup, 1) := by decide +kernel
theorem dX12_init_117 : decode cX12_init 117 = .ok (.iconst 2, 1) := by decide +kernel
theorem dX12_init_118 : decode cX12_init 118 = .ok (.bipush 10, 2) := by decide +kernel
theorem dX12_init_120 : decode cX12_init 120 = .ok (.iastore, 1) := by decide +kernel
theorem dX12_init_121 : decode cX12_init 121 = .ok (.dup, 1) := by decide +kernel
theorem dX12_init_122 : decode cX12_init 122 = .ok (.iconst 3, 1) := by decide +kernel
theorem dX12_init_123 : decode cX12_init 123 = .ok (.bipush 17, 2) := by decide +kernel
theorem dX12_init_125 : decode cX12_init 125 = .ok (.iastore, 1) := by decide +kernel
theorem dX12_init_126 : decode cX12_init 126 = .ok (.putfield 75, 3) := by decide +kernel
theorem dX12_init_129 : decode cX12_init 129 = .ok (.aload_n 0, 1) := by decide +kernel
theorem dX12_init_130 : decode cX12_init 130 = .ok (.bipush 24, 2) := by decide +kernel
theorem dX12_init_132 : decode cX12_init 132 = .ok (.newarray .int, 2) := by decide +kernel
theorem dX12_init_134 : decode cX12_init 134 = .ok (.putfield 121, 3) := by decide +kernel
theorem dX12_init_137 : decode cX12_init 137 = .ok (.aload_n 0, 1) := by decide +kernel
theorem dX12_init_138 : decode cX12_init 138 = .ok (.bipush 24, 2) := by decide +kernel
theorem dX12_init_140 : decode cX12_init 140 = .ok (.newarray .int, 2) := by decide +kernel
theorem dX12_init_142 : decode cX12_init 142 = .ok (.putfield 124, 3) := by decide +kernel
theorem dX12_init_145 : decode cX12_init 145 = .ok (.aload_n 0, 1) := by decide +kernel
theorem dX12_init_146 : decode cX12_init 146 = .ok (.bipush 24, 2) := by decide +kernel
theorem dX12_init_148 : decode cX12_init 148 = .ok (.newarray .int, 2) := by decide +kernel
theorem dX12_init_150 : decode cX12_init 150 = .ok (.putfield 127, 3) := by decide +kernel
theorem dX12_init_153 : decode cX12_init 153 = .ok (.aload_n 0, 1) := by decide +kernel
theorem dX12_init_154 : decode cX12_init 154 = .ok (.bipush 24, 2) := by decide +kernel
theorem dX12_init_156 : decode cX12_init 156 = .ok (.newarray .int, 2) := by decide +kernel
theorem dX12_init_158 : decode cX12_init 158 = .ok (.putfield 130, 3) := by decide +kernel
theorem dX12_init_161 : decode cX12_init 161 = .ok (.aload_n 0, 1) := by decide +kernel
theorem dX12_init_162 : decode cX12_init 162 = .ok (.bipush 24, 2) := by decide +kernel
theorem dX12_init_164 : decode cX12_init 164 = .ok (.newarray .int, 2) := by decide +kernel
theorem dX12_init_166 : decode cX12_init 166 = .ok (.putfield 133, 3) := by decide +kernel
theorem dX12_init_169 : decode cX12_init 169 = .ok (.aload_n 0, 1) := by decide +kernel
theorem dX12_init_170 : decode cX12_init 170 = .ok (.bipush 24, 2) := by decide +kernel
theorem dX12_init_172 : decode cX12_init 172 = .ok (.newarray .int, 2) := by decide +kernel
theorem dX12_init_174 : decode cX12_init 174 = .ok (.putfield 136, 3) := by decide +kernel
theorem dX12_init_177 : decode cX12_init 177 = .ok (.aload_n 0, 1) := by decide +kernel
theorem dX12_init_178 : decode cX12_init 178 = .ok (.bipush 24, 2) := by decide +kernel
theorem dX12_init_180 : decode cX12_init 180 = .ok (.newarray .int, 2) := by decide +kernel
theorem dX12_init_182 : decode cX12_init 182 = .ok (.putfield 139, 3) := by decide +kernel
theorem dX12_init_185 : decode cX12_init 185 = .ok (.aload_n 0, 1) := by decide +kernel
theorem dX12_init_186 : decode cX12_init 186 = .ok (.bipush 24, 2) := by decide +kernel
theorem dX12_init_188 : decode cX12_init 188 = .ok (.newarray .int, 2) := by decide +kernel
theorem dX12_init_190 : decode cX12_init 190 = .ok (.putfield 142, 3) := by decide +kernel
theorem dX12_init_193 : decode cX12_init 193 = .ok (.aload_n 0, 1) := by decide +kernel
theorem dX12_init_194 : decode cX12_init 194 = .ok (.bipush 24, 2) := by decide +kernel
theorem dX12_init_196 : decode cX12_init 196 = .ok (.newarray .int, 2) := by decide +kernel
theorem dX12_init_198 : decode cX12_init 198 = .ok (.putfield 145, 3) := by decide +kernel
theorem dX12_init_201 : decode cX12_init 201 = .ok (.aload_n 0, 1) := by decide +kernel
theorem dX12_init_202 : decode cX12_init 202 = .ok (.bipush 24, 2) := by decide +kernel
theorem dX12_init_204 : decode cX12_init 204 = .ok (.newarray .int, 2) := by decide +kernel
theorem dX12_init_206 : decode cX12_init 206 = .ok (.putfield 148, 3) := by decide +kernel
theorem dX12_init_209 : decode cX12_init 209 = .ok (.aload_n 0, 1) := by decide +kernel
theorem dX12_init_210 : decode cX12_init 210 = .ok (.bipush 24, 2) := by decide +kernel
theorem dX12_init_212 : decode cX12_init 212 = .ok (.newarray .int, 2) := by decide +kernel
theorem dX12_init_214 : decode cX12_init 214 = .ok (.putfield 152, 3) := by decide +kernel
theorem dX12_init_217 : decode cX12_init 217 = .ok (.aload_n 0, 1) := by decide +kernel
theorem dX12_init_218 : decode cX12_init 218 = .ok (.bipush 24, 2) := by decide +kernel
theorem dX12_init_220 : decode cX12_init 220 = .ok (.newarray .int, 2) := by decide +kernel
theorem dX12_init_222 : decode cX12_init 222 = .ok (.putfield 170, 3) := by decide +kernel
theorem dX12_init_225 : decode cX12_init 225 = .ok (.aload_n 0, 1) := by decide +kernel
theorem dX12_init_226 : decode cX12_init 226 = .ok (.bipush 24, 2) := by decide +kernel
theorem dX12_init_228 : decode cX12_init 228 = .ok (.newarray .int, 2) := by decide +kernel
theorem dX12_init_230 : decode cX12_init 230 = .ok (.putfield 155, 3) := by decide +kernel
theorem dX12_init_233 : decode cX12_init 233 = .ok (.aload_n 0, 1) := by decide +kernel
theorem dX12_init_234 : decode cX12_init 234 = .ok (.bipush 24, 2) := by decide +kernel
theorem dX12_init_236 : decode cX12_init 236 = .ok (.newarray .int, 2) := by decide +kernel
theorem dX12_init_238 : decode cX12_init 238 = .ok (.putfield 158, 3) := by decide +kernel
theorem dX12_init_241 : decode cX12_init 241 = .ok (.aload_n 0, 1) := by decide +kernel
theorem dX12_init_242 : decode cX12_init 242 = .ok (.bipush 24, 2) := by decide +kernel
theorem dX12_init_244 : decode cX12_init 244 = .ok (.newarray .int, 2) := by decide +kernel
theorem dX12_init_246 : decode cX12_init 246 = .ok (.putfield 298, 3) := by decide +kernel
theorem dX12_init_249 : decode cX12_init 249 = .ok (.aload_n 0, 1) := by decide +kernel
theorem dX12_init_250 : decode cX12_init 250 = .ok (.sipush 9600, 3) := by decide +kernel
theorem dX12_init_253 : decode cX12_init 253 = .ok (.newarray .boolean, 2) := by decide +kernel
theorem dX12_init_255 : decode cX12_init 255 = .ok (.putfield 348, 3) := by decide +kernel
theorem dX12_init_258 : decode cX12_init 258 = .ok (.aload_n 0, 1) := by decide +kernel
theorem dX12_init_259 : decode cX12_init 259 = .ok (.bipush 30, 2) := by decide +kernel
theorem dX12_init_261 : decode cX12_init 261 = .ok (.newarray .int, 2) := by decide +kernel
theorem dX12_init_263 : decode cX12_init 263 = .ok (.putfield 253, 3) := by decide +kernel
theorem dX12_init_266 : decode cX12_init 266 = .ok (.aload_n 0, 1) := by decide +kernel
theorem dX12_init_267 : decode cX12_init 267 = .ok (.bipush 30, 2) := by decide +kernel
theorem dX12_init_269 : decode cX12_init 269 = .ok (.newarray .int, 2) := by decide +kernel
theorem dX12_init_271 : decode cX12_init 271 = .ok (.putfield 256, 3) := by decide +kernel
theorem dX12_init_274 : decode cX12_init 274 = .ok (.aload_n 0, 1) := by decide +kernel
theorem dX12_init_275 : decode cX12_init 275 = .ok (.sipush 1984, 3) := by decide +kernel
theorem dX12_init_278 : decode cX12_init 278 = .ok (.newarray .int, 2) := by decide +kernel
theorem dX12_init_280 : decode cX12_init 280 = .ok (.putfield 191, 3) := by decide +kernel
theorem dX12_init_283 : decode cX12_init 283 = .ok (.aload_n 0, 1) := by decide +kernel
theorem dX12_init_284 : decode cX12_init 284 = .ok (.bipush 31, 2) := by decide +kernel
theorem dX12_init_286 : decode cX12_init 286 = .ok (.newarray .int, 2) := by decide +kernel
theorem dX12_init_288 : decode cX12_init 288 = .ok (.putfield 197, 3) := by decide +kernel
theorem dX12_init_291 : decode cX12_init 291 = .ok (.aload_n 0, 1) := by decide +kernel
theorem dX12_init_292 : decode cX12_init 292 = .ok (.bipush 100, 2) := by decide +kernel
theorem dX12_init_294 : decode cX12_init 294 = .ok (.newarray .int, 2) := by decide +kernel
theorem dX12_init_296 : decode cX12_init 296 = .ok (.putfield 180, 3) := by decide +kernel
theorem dX12_init_299 : decode cX12_init 299 = .ok (.aload_n 0, 1) := by decide +kernel
theorem dX12_init_300 : decode cX12_init 300 = .ok (.bipush 64, 2) := by decide +kernel
theorem dX12_init_302 : decode cX12_init 302 = .ok (.newarray .int, 2) := by decide +kernel
theorem dX12_init_304 : decode cX12_init 304 = .ok (.putfield 272, 3) := by decide +kernel
theorem dX12_init_307 : decode cX12_init 307 = .ok (.aload_n 0, 1) := by decide +kernel
theorem dX12_init_308 : decode cX12_init 308 = .ok (.bipush 12, 2) := by decide +kernel
theorem dX12_init_310 : decode cX12_init 310 = .ok (.newarray .int, 2) := by decide +kernel
theorem dX12_init_312 : decode cX12_init 312 = .ok (.putfield 275, 3) := by decide +kernel
theorem dX12_init_315 : decode cX12_init 315 = .ok (.aload_n 0, 1) := by decide +kernel
theorem dX12_init_316 : decode cX12_init 316 = .ok (.bipush 10, 2) := by decide +kernel
theorem dX12_init_318 : decode cX12_init 318 = .ok (.newarray .int, 2) := by decide +kernel
theorem dX12_init_320 : decode cX12_init 320 = .ok (.putfield 265, 3) := by decide +kernel
theorem dX12_init_323 : decode cX12_init 323 = .ok (.aload_n 0, 1) := by decide +kernel
theorem dX12_init_324 : decode cX12_init 324 = .ok (.bipush 64, 2) := by decide +kernel
theorem dX12_init_326 : decode cX12_init 326 = .ok (.newarray .int, 2) := by decide +kernel
theorem dX12_init_328 : decode cX12_init 328 = .ok (.putfield 354, 3) := by decide +kernel
theorem dX12_init_331 : decode cX12_init 331 = .ok (.aload_n 0, 1) := by decide +kernel
theorem dX12_init_332 : decode cX12_init 332 = .ok (.bipush 7, 2) := by decide +kernel
theorem dX12_init_334 : decode cX12_init 334 = .ok (.newarray .int, 2) := by decide +kernel
theorem dX12_init_336 : decode cX12_init 336 = .ok (.putfield 360, 3) := by decide +kernel
theorem dX12_init_339 : decode cX12_init 339 = .ok (.aload_n 0, 1) := by decide +kernel
theorem dX12_init_340 : decode cX12_init 340 = .ok (.bipush 7, 2) := by decide +kernel
theorem dX12_init_342 : decode cX12_init 342 = .ok (.newarray .int, 2) := by decide +kernel
theorem dX12_init_344 : decode cX12_init 344 = .ok (.putfield 380, 3) := by decide +kernel
theorem dX12_init_347 : decode cX12_init 347 = .ok (.aload_n 0, 1) := by decide +kernel
theorem dX12_init_348 : decode cX12_init 348 = .ok (.bipush 7, 2) := by decide +kernel
theorem dX12_init_350 : decode cX12_init 350 = .ok (.newarray .int, 2) := by decide +kernel
theorem dX12_init_352 : decode cX12_init 352 = .ok (.putfield 403, 3) := by decide +kernel
theorem dX12_init_355 : decode cX12_init 355 = .ok (.aload_n 0, 1) := by decide +kernel
theorem dX12_init_356 : decode cX12_init 356 = .ok (.bipush 7, 2) := by decide +kernel
theorem dX12_init_358 : decode cX12_init 358 = .ok (.newarray .int, 2) := by decide +kernel
theorem dX12_init_360 : decode cX12_init 360 = .ok (.putfield 406, 3) := by decide +kernel
theorem dX12_init_363 : decode cX12_init 363 = .ok (.aload_n 0, 1) := by decide +kernel
theorem dX12_init_364 : decode cX12_init 364 = .ok (.bipush 12, 2) := by decide +kernel
theorem dX12_init_366 : decode cX12_init 366 = .ok (.newarray .int, 2) := by decide +kernel
theorem dX12_init_368 : decode cX12_init 368 = .ok (.putfield 409, 3) := by decide +kernel
theorem dX12_init_371 : decode cX12_init 371 = .ok (.aload_n 0, 1) := by decide +kernel
theorem dX12_init_372 : decode cX12_init 372 = .ok (.bipush 10, 2) := by decide +kernel
theorem dX12_init_374 : decode cX12_init 374 = .ok (.newarray .int, 2) := by decide +kernel
theorem dX12_init_376 : decode cX12_init 376 = .ok (.putfield 419, 3) := by decide +kernel
theorem dX12_init_379 : decode cX12_init 379 = .ok (.aload_n 0, 1) := by decide +kernel
theorem dX12_init_380 : decode cX12_init 380 = .ok (.bipush 12, 2) := by decide +kernel
theorem dX12_init_382 : decode cX12_init 382 = .ok (.newarray .int, 2) := by decide +kernel
theorem dX12_init_384 : decode cX12_init 384 = .ok (.putfield 425, 3) := by decide +kernel
theorem dX12_init_387 : decode cX12_init 387 = .ok (.aload_n 0, 1) := by decide +kernel
theorem dX12_init_388 : decode cX12_init 388 = .ok (.bipush 10, 2) := by decide +kernel
theorem dX12_init_390 : decode cX12_init 390 = .ok (.newarray .boolean, 2) := by decide +kernel
theorem dX12_init_392 : decode cX12_init 392 = .ok (.putfield 431, 3) := by decide +kernel
theorem dX12_init_395 : decode cX12_init 395 = .ok (.aload_n 0, 1) := by decide +kernel
theorem dX12_init_396 : decode cX12_init 396 = .ok (.bipush 8, 2) := by decide +kernel
theorem dX12_init_398 : decode cX12_init 398 = .ok (.newarray .int, 2) := by decide +kernel
theorem dX12_init_400 : decode cX12_init 400 = .ok (.putfield 443, 3) := by decide +kernel
theorem dX12_init_403 : decode cX12_init 403 = .ok (.aload_n 0, 1) := by decide +kernel
theorem dX12_init_404 : decode cX12_init 404 = .ok (.bipush 8, 2) := by decide +kernel
theorem dX12_init_406 : decode cX12_init 406 = .ok (.newarray .int, 2) := by decide +kernel
theorem dX12_init_408 : decode cX12_init 408 = .ok (.putfield 453, 3) := by decide +kernel
theorem dX12_init_411 : decode cX12_init 411 = .ok (.aload_n 0, 1) := by decide +kernel
theorem dX12_init_412 : decode cX12_init 412 = .ok (.bipush 8, 2) := by decide +kernel
theorem dX12_init_414 : decode cX12_init 414 = .ok (.newarray .int, 2) := by decide +kernel
theorem dX12_init_416 : decode cX12_init 416 = .ok (.putfield 456, 3) := by decide +kernel
theorem dX12_init_419 : decode cX12_init 419 = .ok (.aload_n 0, 1) := by decide +kernel
theorem dX12_init_420 : decode cX12_init 420 = .ok (.bipush 24, 2) := by decide +kernel
theorem dX12_init_422 : decode cX12_init 422 = .ok (.newarray .int, 2) := by decide +kernel
theorem dX12_init_424 : decode cX12_init 424 = .ok (.putfield 459, 3) := by decide +kernel
theorem dX12_init_427 : decode cX12_init 427 = .ok (.aload_n 0, 1) := by decide +kernel
theorem dX12_init_428 : decode cX12_init 428 = .ok (.bipush 24, 2) := by decide +kernel
theorem dX12_init_430 : decode cX12_init 430 = .ok (.newarray .int, 2) := by decide +kernel
theorem dX12_init_432 : decode cX12_init 432 = .ok (.putfield 462, 3) := by decide +kernel
theorem dX12_init_435 : decode cX12_init 435 = .ok (.aload_n 0, 1) := by decide +kernel
theorem dX12_init_436 : decode cX12_init 436 = .ok (.bipush 24, 2) := by decide +kernel
theorem dX12_init_438 : decode cX12_init 438 = .ok (.newarray .int, 2) := by decide +kernel
theorem dX12_init_440 : decode cX12_init 440 = .ok (.putfield 465, 3) := by decide +kernel
theorem dX12_init_443 : decode cX12_init 443 = .ok (.aload_n 0, 1) := by decide +kernel
theorem dX12_init_444 : decode cX12_init 444 = .ok (.sipush 256, 3) := by decide +kernel
theorem dX12_init_447 : decode cX12_init 447 = .ok (.newarray .int, 2) := by decide +kernel
theorem dX12_init_449 : decode cX12_init 449 = .ok (.putfield 475, 3) := by decide +kernel
theorem dX12_init_452 : decode cX12_init 452 = .ok (.aload_n 0, 1) := by decide +kernel
theorem dX12_init_453 : decode cX12_init 453 = .ok (.sipush 256, 3) := by decide +kernel
theorem dX12_init_456 : decode cX12_init 456 = .ok (.newarray .int, 2) := by decide +kernel
theorem dX12_init_458 : decode cX12_init 458 = .ok (.putfield 489, 3) := by decide +kernel
theorem dX12_init_461 : decode cX12_init 461 = .ok (.aload_n 0, 1) := by decide +kernel
theorem dX12_init_462 : decode cX12_init 462 = .ok (.sipush 256, 3) := by decide +kernel
theorem dX12_init_465 : decode cX12_init 465 = .ok (.newarray .boolean, 2) := by decide +kernel
theorem dX12_init_467 : decode cX12_init 467 = .ok (.putfield 472, 3) := by decide +kernel
theorem dX12_init_470 : decode cX12_init 470 = .ok (.aload_n 0, 1) := by decide +kernel
theorem dX12_init_471 : decode cX12_init 471 = .ok (.sipush 160, 3) := by decide +kernel
theorem dX12_init_474 : decode cX12_init 474 = .ok (.newarray .boolean, 2) := by decide +kernel
theorem dX12_init_476 : decode cX12_init 476 = .ok (.putfield 502, 3) := by decide +kernel
theorem dX12_init_479 : decode cX12_init 479 = .ok (.return_, 1) := by decide +kernel
theorem dX11_door_0 : decode cX11_door 0 = .ok (.aload_n 0, 1) := by decide +kernel
theorem dX11_door_1 : decode cX11_door 1 = .ok (.getfield 10, 3) := by decide +kernel
theorem dX11_door_4 : decode cX11_door 4 = .ok (.iload_n 1, 1) := by decide +kernel
theorem dX11_door_5 : decode cX11_door 5 = .ok (.invokevirtual 78, 3) := by decide +kernel
theorem dX11_door_8 : decode cX11_door 8 = .ok (.ifCond .eq 48, 3) := by decide +kernel
theorem dX11_door_11 : decode cX11_door 11 = .ok (.aload_n 0, 1) := by decide +kernel
theorem dX11_door_12 : decode cX11_door 12 = .ok (.getfield 10, 3) := by decide +kernel
theorem dX11_door_15 : decode cX11_door 15 = .ok (.iload_n 2, 1) := by decide +kernel
theorem dX11_door_16 : decode cX11_door 16 = .ok (.invokevirtual 78, 3) := by decide +kernel
theorem dX11_door_19 : decode cX11_door 19 = .ok (.ifCond .eq 37, 3) := by decide +kernel
theorem dX11_door_22 : decode cX11_door 22 = .ok (.iload_n 1, 1) := by decide +kernel
theorem dX11_door_23 : decode cX11_door 23 = .ok (.iload_n 2, 1) := by decide +kernel
theorem dX11_door_24 : decode cX11_door 24 = .ok (.if_icmp .eq 32, 3) := by decide +kernel
theorem dX11_door_27 : decode cX11_door 27 = .ok (.iload_n 3, 1) := by decide +kernel
theorem dX11_door_28 : decode cX11_door 28 = .ok (.bipush 50, 2) := by decide +kernel
theorem dX11_door_30 : decode cX11_door 30 = .ok (.sipush 400, 3) := by decide +kernel
theorem dX11_door_33 : decode cX11_door 33 = .ok (.invokestatic 82, 3) := by decide +kernel
theorem dX11_door_36 : decode cX11_door 36 = .ok (.ifCond .eq 20, 3) := by decide +kernel
theorem dX11_door_39 : decode cX11_door 39 = .ok (.iload 4, 2) := by decide +kernel
theorem dX11_door_41 : decode cX11_door 41 = .ok (.bipush 100, 2) := by decide +kernel
theorem dX11_door_43 : decode cX11_door 43 = .ok (.sipush 600, 3) := by decide +kernel
theorem dX11_door_46 : decode cX11_door 46 = .ok (.invokestatic 82, 3) := by decide +kernel
theorem dX11_door_49 : decode cX11_door 49 = .ok (.ifCond .eq 7, 3) := by decide +kernel
theorem dX11_door_52 : decode cX11_door 52 = .ok (.iconst 1, 1) := by decide +kernel
theorem dX11_door_53 : decode cX11_door 53 = .ok (.goto 4, 3) := by decide +kernel
theorem dX11_door_56 : decode cX11_door 56 = .ok (.iconst 0, 1) := by decide +kernel
theorem dX11_door_57 : decode cX11_door 57 = .ok (.istore 5, 2) := by decide +kernel
theorem dX11_door_59 : decode cX11_door 59 = .ok (.iload 5, 2) := by decide +kernel
theorem dX11_door_61 : decode cX11_door 61 = .ok (.ifCond .eq 18, 3) := by decide +kernel
theorem dX11_door_64 : decode cX11_door 64 = .ok (.aload_n 0, 1) := by decide +kernel
theorem dX11_door_65 : decode cX11_door 65 = .ok (.getfield 10, 3) := by decide +kernel
theorem dX11_door_68 : decode cX11_door 68 = .ok (.getfield 86, 3) := by decide +kernel
theorem dX11_door_71 : decode cX11_door 71 = .ok (.invokevirtual 90, 3) := by decide +kernel
theorem dX11_door_74 : decode cX11_door 74 = .ok (.bipush 20, 2) := by decide +kernel
theorem dX11_door_76 : decode cX11_door 76 = .ok (.if_icmp .lt 5, 3) := by decide +kernel
theorem dX11_door_79 : decode cX11_door 79 = .ok (.iconst (-1), 1) := by decide +kernel
theorem dX11_door_80 : decode cX11_door 80 = .ok (.ireturn, 1) := by decide +kernel
theorem dX11_door_81 : decode cX11_door 81 = .ok (.aload_n 0, 1) := by decide +kernel
theorem dX11_door_82 : decode cX11_door 82 = .ok (.getfield 10, 3) := by decide +kernel
theorem dX11_door_85 : decode cX11_door 85 = .ok (.getfield 86, 3) := by decide +kernel
theorem dX11_door_88 : decode cX11_door 88 = .ok (.new 96, 3) := by decide +kernel
theorem dX11_door_91 : decode cX11_door 91 = .ok (.dup, 1) := by decide +kernel
theorem dX11_door_92 : decode cX11_door 92 = .ok (.iload_n 1, 1) := by decide +kernel
theorem dX11_door_93 : decode cX11_door 93 = .ok (.iload_n 2, 1) := by decide +kernel
theorem dX11_door_94 : decode cX11_door 94 = .ok (.iload_n 3, 1) := by decide +kernel
theorem dX11_door_95 : decode cX11_door 95 = .ok (.iload 4, 2) := by decide +kernel
theorem dX11_door_97 : decode cX11_door 97 = .ok (.invokespecial 98, 3) := by decide +kernel
theorem dX11_door_100 : decode cX11_door 100 = .ok (.invokevirtual 101, 3) := by decide +kernel
theorem dX11_door_103 : decode cX11_door 103 = .ok (.pop, 1) := by decide +kernel
theorem dX11_door_104 : decode cX11_door 104 = .ok (.aload_n 0, 1) := by decide +kernel
theorem dX11_door_105 : decode cX11_door 105 = .ok (.getfield 10, 3) := by decide +kernel
theorem dX11_door_108 : decode cX11_door 108 = .ok (.aload_n 0, 1) := by decide +kernel
theorem dX11_door_109 : decode cX11_door 109 = .ok (.getfield 10, 3) := by decide +kernel
theorem dX11_door_112 : decode cX11_door 112 = .ok (.getfield 71, 3) := by decide +kernel
theorem dX11_door_115 : decode cX11_door 115 = .ok (.iconst 0, 1) := by decide +kernel
theorem dX11_door_116 : decode cX11_door 116 = .ok (.aconst_null, 1) := by decide +kernel
theorem dX11_door_117 : decode cX11_door 117 = .ok (.iconst (-1), 1) := by decide +kernel
theorem dX11_door_118 : decode cX11_door 118 = .ok (.invokevirtual 74, 3) := by decide +kernel
theorem dX11_door_121 : decode cX11_door 121 = .ok (.aload_n 0, 1) := by decide +kernel
theorem dX11_door_122 : decode cX11_door 122 = .ok (.getfield 10, 3) := by decide +kernel
theorem dX11_door_125 : decode cX11_door 125 = .ok (.getfield 86, 3) := by decide +kernel
theorem dX11_door_128 : decode cX11_door 128 = .ok (.invokevirtual 90, 3) := by decide +kernel
theorem dX11_door_131 : decode cX11_door 131 = .ok (.iconst 1, 1) := by decide +kernel
theorem dX11_door_132 : decode cX11_door 132 = .ok (.isub, 1) := by decide +kernel
theorem dX11_door_133 : decode cX11_door 133 = .ok (.ireturn, 1) := by decide +kernel
theorem dX11_wall_0 : decode cX11_wall 0 = .ok (.aload_n 0, 1) := by decide +kernel
theorem dX11_wall_1 : decode cX11_wall 1 = .ok (.getfield 10, 3) := by decide +kernel
theorem dX11_wall_4 : decode cX11_wall 4 = .ok (.iload_n 1, 1) := by decide +kernel
theorem dX11_wall_5 : decode cX11_wall 5 = .ok (.invokevirtual 78, 3) := by decide +kernel
theorem dX11_wall_8 : decode cX11_wall 8 = .ok (.ifCond .eq 43, 3) := by decide +kernel
theorem dX11_wall_11 : decode cX11_wall 11 = .ok (.iload_n 2, 1) := by decide +kernel
theorem dX11_wall_12 : decode cX11_wall 12 = .ok (.bipush 50, 2) := by decide +kernel
theorem dX11_wall_14 : decode cX11_wall 14 = .ok (.sipush 3000, 3) := by decide +kernel
theorem dX11_wall_17 : decode cX11_wall 17 = .ok (.invokestatic 82, 3) := by decide +kernel
theorem dX11_wall_20 : decode cX11_wall 20 = .ok (.ifCond .eq 31, 3) := by decide +kernel
theorem dX11_wall_23 : decode cX11_wall 23 = .ok (.iload_n 3, 1) := by decide +kernel
theorem dX11_wall_24 : decode cX11_wall 24 = .ok (.bipush 100, 2) := by decide +kernel
theorem dX11_wall_26 : decode cX11_wall 26 = .ok (.sipush 900, 3) := by decide +kernel
theorem dX11_wall_29 : decode cX11_wall 29 = .ok (.invokestatic 82, 3) := by decide +kernel
theorem dX11_wall_32 : decode cX11_wall 32 = .ok (.ifCond .eq 19, 3) := by decide +kernel
theorem dX11_wall_35 : decode cX11_wall 35 = .ok (.iload 4, 2) := by decide +kernel
theorem dX11_wall_37 : decode cX11_wall 37 = .ok (.iconst 1, 1) := by decide +kernel
theorem dX11_wall_38 : decode cX11_wall 38 = .ok (.sipush 9999, 3) := by decide +kernel
theorem dX11_wall_41 : decode cX11_wall 41 = .ok (.invokestatic 82, 3) := by decide +kernel
theorem dX11_wall_44 : decode cX11_wall 44 = .ok (.ifCond .eq 7, 3) := by decide +kernel
theorem dX11_wall_47 : decode cX11_wall 47 = .ok (.iconst 1, 1) := by decide +kernel
theorem dX11_wall_48 : decode cX11_wall 48 = .ok (.goto 4, 3) := by decide +kernel
theorem dX11_wall_51 : decode cX11_wall 51 = .ok (.iconst 0, 1) := by decide +kernel
theorem dX11_wall_52 : decode cX11_wall 52 = .ok (.istore 5, 2) := by decide +kernel
theorem dX11_wall_54 : decode cX11_wall 54 = .ok (.iload 5, 2) := by decide +kernel
theorem dX11_wall_56 : decode cX11_wall 56 = .ok (.ifCond .eq 18, 3) := by decide +kernel
theorem dX11_wall_59 : decode cX11_wall 59 = .ok (.aload_n 0, 1) := by decide +kernel
theorem dX11_wall_60 : decode cX11_wall 60 = .ok (.getfield 10, 3) := by decide +kernel
theorem dX11_wall_63 : decode cX11_wall 63 = .ok (.getfield 105, 3) := by decide +kernel
theorem dX11_wall_66 : decode cX11_wall 66 = .ok (.invokevirtual 90, 3) := by decide +kernel
theorem dX11_wall_69 : decode cX11_wall 69 = .ok (.bipush 16, 2) := by decide +kernel
theorem dX11_wall_71 : decode cX11_wall 71 = .ok (.if_icmp .lt 5, 3) := by decide +kernel
theorem dX11_wall_74 : decode cX11_wall 74 = .ok (.iconst (-1), 1) := by decide +kernel
theorem dX11_wall_75 : decode cX11_wall 75 = .ok (.ireturn, 1) := by decide +kernel
theorem dX11_wall_76 : decode cX11_wall 76 = .ok (.new 108, 3) := by decide +kernel
theorem dX11_wall_79 : decode cX11_wall 79 = .ok (.dup, 1) := by decide +kernel
theorem dX11_wall_80 : decode cX11_wall 80 = .ok (.aload_n 0, 1) := by decide +kernel
theorem dX11_wall_81 : decode cX11_wall 81 = .ok (.getfield 10, 3) := by decide +kernel
theorem dX11_wall_84 : decode cX11_wall 84 = .ok (.getfield 105, 3) := by decide +kernel
theorem dX11_wall_87 : decode cX11_wall 87 = .ok (.invokevirtual 90, 3) := by decide +kernel
theorem dX11_wall_90 : decode cX11_wall 90 = .ok (.iload_n 1, 1) := by decide +kernel
theorem dX11_wall_91 : decode cX11_wall 91 = .ok (.invokespecial 110, 3) := by decide +kernel
theorem dX11_wall_94 : decode cX11_wall 94 = .ok (.astore 6, 2) := by decide +kernel
theorem dX11_wall_96 : decode cX11_wall 96 = .ok (.aload 6, 2) := by decide +kernel
theorem dX11_wall_98 : decode cX11_wall 98 = .ok (.iload_n 2, 1) := by decide +kernel
theorem dX11_wall_99 : decode cX11_wall 99 = .ok (.putfield 113, 3) := by decide +kernel
theorem dX11_wall_102 : decode cX11_wall 102 = .ok (.aload 6, 2) := by decide +kernel
theorem dX11_wall_104 : decode cX11_wall 104 = .ok (.iload_n 3, 1) := by decide +kernel
theorem dX11_wall_105 : decode cX11_wall 105 = .ok (.putfield 116, 3) := by decide +kernel
theorem dX11_wall_108 : decode cX11_wall 108 = .ok (.aload 6, 2) := by decide +kernel
theorem dX11_wall_110 : decode cX11_wall 110 = .ok (.iload 4, 2) := by decide +kernel
theorem dX11_wall_112 : decode cX11_wall 112 = .ok (.putfield 119, 3) := by decide +kernel
theorem dX11_wall_115 : decode cX11_wall 115 = .ok (.aload_n 0, 1) := by decide +kernel
theorem dX11_wall_116 : decode cX11_wall 116 = .ok (.getfield 10, 3) := by decide +kernel
theorem dX11_wall_119 : decode cX11_wall 119 = .ok (.getfield 105, 3) := by decide +kernel
theorem dX11_wall_122 : decode cX11_wall 122 = .ok (.aload 6, 2) := by decide +kernel
theorem dX11_wall_124 : decode cX11_wall 124 = .ok (.invokevirtual 101, 3) := by decide +kernel
theorem dX11_wall_127 : decode cX11_wall 127 = .ok (.pop, 1) := by decide +kernel
theorem dX11_wall_128 : decode cX11_wall 128 = .ok (.aload 6, 2) := by decide +kernel
theorem dX11_wall_130 : decode cX11_wall 130 = .ok (.getfield 122, 3) := by decide +kernel
theorem dX11_wall_133 : decode cX11_wall 133 = .ok (.ireturn, 1) := by decide +kernel
theorem dX11_picture_0 : decode cX11_picture 0 = .ok (.iload_n 1, 1) := by decide +kernel
theorem dX11_picture_1 : decode cX11_picture 1 = .ok (.bipush 10, 2) := by decide +kernel
theorem dX11_picture_3 : decode cX11_picture 3 = .ok (.sipush 800, 3) := by decide +kernel
theorem dX11_picture_6 : decode cX11_picture 6 = .ok (.invokestatic 82, 3) := by decide +kernel
theorem dX11_picture_9 : decode cX11_picture 9 = .ok (.ifCond .eq 76, 3) := by decide +kernel
theorem dX11_picture_12 : decode cX11_picture 12 = .ok (.iload_n 2, 1) := by decide +kernel
theorem dX11_picture_13 : decode cX11_picture 13 = .ok (.bipush 10, 2) := by decide +kernel
theorem dX11_picture_15 : decode cX11_picture 15 = .ok (.sipush 800, 3) := by decide +kernel
theorem dX11_picture_18 : decode cX11_picture 18 = .ok (.invokestatic 82, 3) := by decide +kernel
theorem dX11_picture_21 : decode cX11_picture 21 = .ok (.ifCond .eq 64, 3) := by decide +kernel
theorem dX11_picture_24 : decode cX11_picture 24 = .ok (.iload_n 3, 1) := by decide +kernel
theorem dX11_picture_25 : decode cX11_picture 25 = .ok (.iconst 1, 1) := by decide +kernel
theorem dX11_picture_26 : decode cX11_picture 26 = .ok (.sipush 999, 3) := by decide +kernel
theorem dX11_picture_29 : decode cX11_picture 29 = .ok (.invokestatic 82, 3) := by decide +kernel
theorem dX11_picture_32 : decode cX11_picture 32 = .ok (.ifCond .eq 53, 3) := by decide +kernel
theorem dX11_picture_35 : decode cX11_picture 35 = .ok (.iload 4, 2) := by decide +kernel
theorem dX11_picture_37 : decode cX11_picture 37 = .ok (.iconst 0, 1) := by decide +kernel
theorem dX11_picture_38 : decode cX11_picture 38 = .ok (.bipush 7, 2) := by decide +kernel
theorem dX11_picture_40 : decode cX11_picture 40 = .ok (.invokestatic 82, 3) := by decide +kernel
theorem dX11_picture_43 : decode cX11_picture 43 = .ok (.ifCond .eq 42, 3) := by decide +kernel
theorem dX11_picture_46 : decode cX11_picture 46 = .ok (.iload 5, 2) := by decide +kernel
theorem dX11_picture_48 : decode cX11_picture 48 = .ok (.iconst 0, 1) := by decide +kernel
theorem dX11_picture_49 : decode cX11_picture 49 = .ok (.sipush 2999, 3) := by decide +kernel
theorem dX11_picture_52 : decode cX11_picture 52 = .ok (.invokestatic 82, 3) := by decide +kernel
theorem dX11_picture_55 : decode cX11_picture 55 = .ok (.ifCond .eq 30, 3) := by decide +kernel
theorem dX11_picture_58 : decode cX11_picture 58 = .ok (.iload 6, 2) := by decide +kernel
theorem dX11_picture_60 : decode cX11_picture 60 = .ok (.iconst 0, 1) := by decide +kernel
theorem dX11_picture_61 : decode cX11_picture 61 = .ok (.sipush 999, 3) := by decide +kernel
theorem dX11_picture_64 : decode cX11_picture 64 = .ok (.invokestatic 82, 3) := by decide +kernel
theorem dX11_picture_67 : decode cX11_picture 67 = .ok (.ifCond .eq 18, 3) := by decide +kernel
theorem dX11_picture_70 : decode cX11_picture 70 = .ok (.iload 7, 2) := by decide +kernel
theorem dX11_picture_72 : decode cX11_picture 72 = .ok (.iconst 0, 1) := by decide +kernel
theorem dX11_picture_73 : decode cX11_picture 73 = .ok (.bipush 7, 2) := by decide +kernel
theorem dX11_picture_75 : decode cX11_picture 75 = .ok (.invokestatic 82, 3) := by decide +kernel
theorem dX11_picture_78 : decode cX11_picture 78 = .ok (.ifCond .eq 7, 3) := by decide +kernel
theorem dX11_picture_81 : decode cX11_picture 81 = .ok (.iconst 1, 1) := by decide +kernel
theorem dX11_picture_82 : decode cX11_picture 82 = .ok (.goto 4, 3) := by decide +kernel
theorem dX11_picture_85 : decode cX11_picture 85 = .ok (.iconst 0, 1) := by decide +kernel
theorem dX11_picture_86 : decode cX11_picture 86 = .ok (.istore 8, 2) := by decide +kernel
theorem dX11_picture_88 : decode cX11_picture 88 = .ok (.iload 8, 2) := by decide +kernel
theorem dX11_picture_90 : decode cX11_picture 90 = .ok (.ifCond .eq 18, 3) := by decide +kernel
theorem dX11_picture_93 : decode cX11_picture 93 = .ok (.aload_n 0, 1) := by decide +kernel
theorem dX11_picture_94 : decode cX11_picture 94 = .ok (.getfield 10, 3) := by decide +kernel
theorem dX11_picture_97 : decode cX11_picture 97 = .ok (.getfield 158, 3) := by decide +kernel
theorem dX11_picture_100 : decode cX11_picture 100 = .ok (.invokevirtual 90, 3) := by decide +kernel
theorem dX11_picture_103 : decode cX11_picture 103 = .ok (.bipush 24, 2) := by decide +kernel
theorem dX11_picture_105 : decode cX11_picture 105 = .ok (.if_icmp .lt 5, 3) := by decide +kernel
theorem dX11_picture_108 : decode cX11_picture 108 = .ok (.iconst (-1), 1) := by decide +kernel
theorem dX11_picture_109 : decode cX11_picture 109 = .ok (.ireturn, 1) := by decide +kernel
theorem dX11_picture_110 : decode cX11_picture 110 = .ok (.new 161, 3) := by decide +kernel
theorem dX11_picture_113 : decode cX11_picture 113 = .ok (.dup, 1) := by decide +kernel
theorem dX11_picture_114 : decode cX11_picture 114 = .ok (.aload_n 0, 1) := by decide +kernel
theorem dX11_picture_115 : decode cX11_picture 115 = .ok (.getfield 10, 3) := by decide +kernel
theorem dX11_picture_118 : decode cX11_picture 118 = .ok (.getfield 158, 3) := by decide +kernel
theorem dX11_picture_121 : decode cX11_picture 121 = .ok (.invokevirtual 90, 3) := by decide +kernel
theorem dX11_picture_124 : decode cX11_picture 124 = .ok (.invokespecial 163, 3) := by decide +kernel
theorem dX11_picture_127 : decode cX11_picture 127 = .ok (.astore 9, 2) := by decide +kernel
theorem dX11_picture_129 : decode cX11_picture 129 = .ok (.aload 9, 2) := by decide +kernel
theorem dX11_picture_131 : decode cX11_picture 131 = .ok (.iload_n 1, 1) := by decide +kernel
theorem dX11_picture_132 : decode cX11_picture 132 = .ok (.putfield 164, 3) := by decide +kernel
theorem dX11_picture_135 : decode cX11_picture 135 = .ok (.aload 9, 2) := by decide +kernel
theorem dX11_picture_137 : decode cX11_picture 137 = .ok (.iload_n 2, 1) := by decide +kernel
theorem dX11_picture_138 : decode cX11_picture 138 = .ok (.putfield 167, 3) := by decide +kernel
theorem dX11_picture_141 : decode cX11_picture 141 = .ok (.aload 9, 2) := by decide +kernel
theorem dX11_picture_143 : decode cX11_picture 143 = .ok (.iload_n 3, 1) := by decide +kernel
theorem dX11_picture_144 : decode cX11_picture 144 = .ok (.putfield 168, 3) := by decide +kernel
theorem dX11_picture_147 : decode cX11_picture 147 = .ok (.aload 9, 2) := by decide +kernel
theorem dX11_picture_149 : decode cX11_picture 149 = .ok (.iload 4, 2) := by decide +kernel
theorem dX11_picture_151 : decode cX11_picture 151 = .ok (.putfield 171, 3) := by decide +kernel
theorem dX11_picture_154 : decode cX11_picture 154 = .ok (.aload 9, 2) := by decide +kernel
theorem dX11_picture_156 : decode cX11_picture 156 = .ok (.iload 5, 2) := by decide +kernel
theorem dX11_picture_158 : decode cX11_picture 158 = .ok (.putfield 174, 3) := by decide +kernel
theorem dX11_picture_161 : decode cX11_picture 161 = .ok (.aload 9, 2) := by decide +kernel
theorem dX11_picture_163 : decode cX11_picture 163 = .ok (.iload 6, 2) := by decide +kernel
theorem dX11_picture_165 : decode cX11_picture 165 = .ok (.putfield 177, 3) := by decide +kernel
theorem dX11_picture_168 : decode cX11_picture 168 = .ok (.aload 9, 2) := by decide +kernel
theorem dX11_picture_170 : decode cX11_picture 170 = .ok (.iload 7, 2) := by decide +kernel
theorem dX11_picture_172 : decode cX11_picture 172 = .ok (.putfield 180, 3) := by decide +kernel
theorem dX11_picture_175 : decode cX11_picture 175 = .ok (.aload_n 0, 1) := by decide +kernel
theorem dX11_picture_176 : decode cX11_picture 176 = .ok (.getfield 10, 3) := by decide +kernel
theorem dX11_picture_179 : decode cX11_picture 179 = .ok (.getfield 158, 3) := by decide +kernel
theorem dX11_picture_182 : decode cX11_picture 182 = .ok (.aload 9, 2) := by decide +kernel
theorem dX11_picture_184 : decode cX11_picture 184 = .ok (.invokevirtual 101, 3) := by decide +kernel
theorem dX11_picture_187 : decode cX11_picture 187 = .ok (.pop, 1) := by decide +kernel
theorem dX11_picture_188 : decode cX11_picture 188 = .ok (.aload 9, 2) := by decide +kernel
theorem dX11_picture_190 : decode cX11_picture 190 = .ok (.getfield 183, 3) := by decide +kernel
theorem dX11_picture_193 : decode cX11_picture 193 = .ok (.ireturn, 1) := by decide +kernel
theorem dX9_take_0 : decode cX9_take 0 = .ok (.aload_n 0, 1) := by decide +kernel
theorem dX9_take_1 : decode cX9_take 1 = .ok (.getfield 21, 3) := by decide +kernel
theorem dX9_take_4 : decode cX9_take 4 = .ok (.aload_n 1, 1) := by decide +kernel
theorem dX9_take_5 : decode cX9_take 5 = .ok (.invokevirtual 50, 3) := by decide +kernel
theorem dX9_take_8 : decode cX9_take 8 = .ok (.istore 4, 2) := by decide +kernel
theorem dX9_take_10 : decode cX9_take 10 = .ok (.iload 4, 2) := by decide +kernel
theorem dX9_take_12 : decode cX9_take 12 = .ok (.iconst (-1), 1) := by decide +kernel
theorem dX9_take_13 : decode cX9_take 13 = .ok (.if_icmp .eq 8, 3) := by decide +kernel
theorem dX9_take_16 : decode cX9_take 16 = .ok (.iconst (-1), 1) := by decide +kernel
theorem dX9_take_17 : decode cX9_take 17 = .ok (.iload 4, 2) := by decide +kernel
theorem dX9_take_19 : decode cX9_take 19 = .ok (.isub, 1) := by decide +kernel
theorem dX9_take_20 : decode cX9_take 20 = .ok (.ireturn, 1) := by decide +kernel
theorem dX9_take_21 : decode cX9_take 21 = .ok (.aload_n 0, 1) := by decide +kernel
theorem dX9_take_22 : decode cX9_take 22 = .ok (.getfield 21, 3) := by decide +kernel
theorem dX9_take_25 : decode cX9_take 25 = .ok (.getfield 54, 3) := by decide +kernel
theorem dX9_take_28 : decode cX9_take 28 = .ok (.getfield 57, 3) := by decide +kernel
theorem dX9_take_31 : decode cX9_take 31 = .ok (.aload_n 0, 1) := by decide +kernel
theorem dX9_take_32 : decode cX9_take 32 = .ok (.getfield 21, 3) := by decide +kernel
theorem dX9_take_35 : decode cX9_take 35 = .ok (.getfield 54, 3) := by decide +kernel
theorem dX9_take_38 : decode cX9_take 38 = .ok (.getfield 60, 3) := by decide +kernel
theorem dX9_take_41 : decode cX9_take 41 = .ok (.invokestatic 64, 3) := by decide +kernel
theorem dX9_take_44 : decode cX9_take 44 = .ok (.astore 5, 2) := by decide +kernel
theorem dX9_take_46 : decode cX9_take 46 = .ok (.aload_n 0, 1) := by decide +kernel
theorem dX9_take_47 : decode cX9_take 47 = .ok (.getfield 12, 3) := by decide +kernel
theorem dX9_take_50 : decode cX9_take 50 = .ok (.new 70, 3) := by decide +kernel
theorem dX9_take_53 : decode cX9_take 53 = .ok (.dup, 1) := by decide +kernel
theorem dX9_take_54 : decode cX9_take 54 = .ok (.iload_n 2, 1) := by decide +kernel
theorem dX9_take_55 : decode cX9_take 55 = .ok (.iload_n 3, 1) := by decide +kernel
theorem dX9_take_56 : decode cX9_take 56 = .ok (.aload 5, 2) := by decide +kernel
theorem dX9_take_58 : decode cX9_take 58 = .ok (.invokespecial 72, 3) := by decide +kernel
theorem dX9_take_61 : decode cX9_take 61 = .ok (.invokevirtual 75, 3) := by decide +kernel
theorem dX9_take_64 : decode cX9_take 64 = .ok (.pop, 1) := by decide +kernel
theorem dX9_take_65 : decode cX9_take 65 = .ok (.aload_n 0, 1) := by decide +kernel
theorem dX9_take_66 : decode cX9_take 66 = .ok (.getfield 12, 3) := by decide +kernel
theorem dX9_take_69 : decode cX9_take 69 = .ok (.invokevirtual 79, 3) := by decide +kernel
theorem dX9_take_72 : decode cX9_take 72 = .ok (.iconst 1, 1) := by decide +kernel
theorem dX9_take_73 : decode cX9_take 73 = .ok (.isub, 1) := by decide +kernel
theorem dX9_take_74 : decode cX9_take 74 = .ok (.ireturn, 1) := by decide +kernel
theorem dX11_term_0 : decode cX11_term 0 = .ok (.aload_n 0, 1) := by decide +kernel
theorem dX11_term_1 : decode cX11_term 1 = .ok (.getfield 10, 3) := by decide +kernel
theorem dX11_term_4 : decode cX11_term 4 = .ok (.iload_n 1, 1) := by decide +kernel
theorem dX11_term_5 : decode cX11_term 5 = .ok (.invokevirtual 184, 3) := by decide +kernel
theorem dX11_term_8 : decode cX11_term 8 = .ok (.ifnull 33, 3) := by decide +kernel
theorem dX11_term_11 : decode cX11_term 11 = .ok (.iload_n 2, 1) := by decide +kernel
theorem dX11_term_12 : decode cX11_term 12 = .ok (.iconst 0, 1) := by decide +kernel
theorem dX11_term_13 : decode cX11_term 13 = .ok (.sipush 400, 3) := by decide +kernel
theorem dX11_term_16 : decode cX11_term 16 = .ok (.invokestatic 82, 3) := by decide +kernel
theorem dX11_term_19 : decode cX11_term 19 = .ok (.ifCond .eq 22, 3) := by decide +kernel
theorem dX11_term_22 : decode cX11_term 22 = .ok (.aload_n 0, 1) := by decide +kernel
theorem dX11_term_23 : decode cX11_term 23 = .ok (.getfield 21, 3) := by decide +kernel
theorem dX11_term_26 : decode cX11_term 26 = .ok (.getfield 209, 3) := by decide +kernel
theorem dX11_term_29 : decode cX11_term 29 = .ok (.invokevirtual 90, 3) := by decide +kernel
theorem dX11_term_32 : decode cX11_term 32 = .ok (.bipush 30, 2) := by decide +kernel
theorem dX11_term_34 : decode cX11_term 34 = .ok (.if_icmp .ge 7, 3) := by decide +kernel
theorem dX11_term_37 : decode cX11_term 37 = .ok (.iconst 1, 1) := by decide +kernel
theorem dX11_term_38 : decode cX11_term 38 = .ok (.goto 4, 3) := by decide +kernel
theorem dX11_term_41 : decode cX11_term 41 = .ok (.iconst 0, 1) := by decide +kernel
theorem dX11_term_42 : decode cX11_term 42 = .ok (.istore_n 3, 1) := by decide +kernel
theorem dX11_term_43 : decode cX11_term 43 = .ok (.iload_n 3, 1) := by decide +kernel
theorem dX11_term_44 : decode cX11_term 44 = .ok (.ifCond .eq 19, 3) := by decide +kernel
theorem dX11_term_47 : decode cX11_term 47 = .ok (.aload_n 0, 1) := by decide +kernel
theorem dX11_term_48 : decode cX11_term 48 = .ok (.getfield 21, 3) := by decide +kernel
theorem dX11_term_51 : decode cX11_term 51 = .ok (.aload_n 0, 1) := by decide +kernel
theorem dX11_term_52 : decode cX11_term 52 = .ok (.getfield 48, 3) := by decide +kernel
theorem dX11_term_55 : decode cX11_term 55 = .ok (.iload_n 1, 1) := by decide +kernel
theorem dX11_term_56 : decode cX11_term 56 = .ok (.iload_n 2, 1) := by decide +kernel
theorem dX11_term_57 : decode cX11_term 57 = .ok (.invokevirtual 212, 3) := by decide +kernel
theorem dX11_term_60 : decode cX11_term 60 = .ok (.goto 5, 3) := by decide +kernel
theorem dX11_term_63 : decode cX11_term 63 = .ok (.bipush (-100), 2) := by decide +kernel
theorem dX11_term_65 : decode cX11_term 65 = .ok (.istore 4, 2) := by decide +kernel
theorem dX11_term_67 : decode cX11_term 67 = .ok (.aload_n 0, 1) := by decide +kernel
theorem dX11_term_68 : decode cX11_term 68 = .ok (.getfield 48, 3) := by decide +kernel
theorem dX11_term_71 : decode cX11_term 71 = .ok (.invokevirtual 216, 3) := by decide +kernel
theorem dX11_term_74 : decode cX11_term 74 = .ok (.iload 4, 2) := by decide +kernel
theorem dX11_term_76 : decode cX11_term 76 = .ok (.ireturn, 1) := by decide +kernel
theorem dJx4a65c_init_da8c8_0 : decode cJx4a65c_init_da8c8 0 = .ok (.aload_n 0, 1) := by decide +kernel
theorem dJx4a65c_init_da8c8_1 : decode cJx4a65c_init_da8c8 1 = .ok (.invokespecial 1, 3) := by decide +kernel
theorem dJx4a65c_init_da8c8_4 : decode cJx4a65c_init_da8c8 4 = .ok (.aload_n 0, 1) := by decide +kernel
theorem dJx4a65c_init_da8c8_5 : decode cJx4a65c_init_da8c8 5 = .ok (.getstatic 39, 3) := by decide +kernel
theorem dJx4a65c_init_da8c8_8 : decode cJx4a65c_init_da8c8 8 = .ok (.putfield 9, 3) := by decide +kernel
theorem dJx4a65c_init_da8c8_11 : decode cJx4a65c_init_da8c8 11 = .ok (.return_, 1) := by decide +kernel
theorem dJxa1e45_init_da8c8_0 : decode cJxa1e45_init_da8c8 0 = .ok (.aload_n 0, 1) := by decide +kernel
theorem dJxa1e45_init_da8c8_1 : decode cJxa1e45_init_da8c8 1 = .ok (.invokespecial 1, 3) := by decide +kernel
theorem dJxa1e45_init_da8c8_4 : decode cJxa1e45_init_da8c8 4 = .ok (.return_, 1) := by decide +kernel
theorem dJxc12de_init_da8c8_0 : decode cJxc12de_init_da8c8 0 = .ok (.aload_n 0, 1) := by decide +kernel
theorem dJxc12de_init_da8c8_1 : decode cJxc12de_init_da8c8 1 = .ok (.invokespecial 1, 3) := by decide +kernel
theorem dJxc12de_init_da8c8_4 : decode cJxc12de_init_da8c8 4 = .ok (.aload_n 0, 1) := by decide +kernel
theorem dJxc12de_init_da8c8_5 : decode cJxc12de_init_da8c8 5 = .ok (.iconst 0, 1) := by decide +kernel
theorem dJxc12de_init_da8c8_6 : decode cJxc12de_init_da8c8 6 = .ok (.putfield 7, 3) := by decide +kernel
theorem dJxc12de_init_da8c8_9 : decode cJxc12de_init_da8c8 9 = .ok (.return_, 1) := by decide +kernel
theorem fa_X11_116 : q_FA RX11 116 10 3 false := ⟨RX10, TX10, 9, tyX10, rfl, by decide, rfl, rfl, q_wd 583 (by decide +kernel) (by decide +kernel), in_X10, tyX10_ok, nmX10, rfl, fun _ => Or.inl rfl⟩
theorem fa_X11_119 : q_FA RX11 119 10 4 false := ⟨RX10, TX10, 9, tyX10, rfl, by decide, rfl, rfl, q_wd 585 (by decide +kernel) (by decide +kernel), in_X10, tyX10_ok, nmX10, rfl, fun _ => Or.inl rfl⟩
theorem fa_X11_167 : q_FA RX11 167 5 2 false := ⟨RX5, TX5, 14, tyX5, rfl, by decide, rfl, rfl, q_wd 675 (by decide +kernel) (by decide +kernel), in_X5, tyX5_ok, nmX5, rfl, fun _ => Or.inl rfl⟩
theorem fa_X11_168 : q_FA RX11 168 5 3 false := ⟨RX5, TX5, 14, tyX5, rfl, by decide, rfl, rfl, q_wd 678 (by decide +kernel) (by decide +kernel), in_X5, tyX5_ok, nmX5, rfl, fun _ => Or.inl rfl⟩
theorem fa_X11_171 : q_FA RX11 171 5 4 false := ⟨RX5, TX5, 14, tyX5, rfl, by decide, rfl, rfl, q_wd 681 (by decide +kernel) (by decide +kernel), in_X5, tyX5_ok, nmX5, rfl, fun _ => Or.inl rfl⟩
theorem fa_X11_174 : q_FA RX11 174 5 5 false := ⟨RX5, TX5, 14, tyX5, rfl, by decide, rfl, rfl, q_wd 684 (by decide +kernel) (by decide +kernel), in_X5, tyX5_ok, nmX5, rfl, fun _ => Or.inl rfl⟩
theorem fa_X11_177 : q_FA RX11 177 5 6 false := ⟨RX5, TX5, 14, tyX5, rfl, by decide, rfl, rfl, q_wd 685 (by decide +kernel) (by decide +kernel), in_X5, tyX5_ok, nmX5, rfl, fun _ => Or.inl rfl⟩
theorem fa_X11_180 : q_FA RX11 180 5 7 false := ⟨RX5, TX5, 14, tyX5, rfl, by decide, rfl, rfl, q_wd 687 (by decide +kernel) (by decide +kernel), in_X5, tyX5_ok, nmX5, rfl, fun _ => Or.inl rfl⟩
theorem fa_X0_7 : q_FA RX0 7 0 0 false := ⟨RX0, TX0, 4, tyX0, rfl, by decide, rfl, rfl, q_wd 485 (by decide +kernel) (by decide +kernel), in_X0, tyX0_ok, nmX0, rfl, fun _ => Or.inl rfl⟩
theorem fa_X0_13 : q_FA RX0 13 0 1 false := ⟨RX0, TX0, 4, tyX0, rfl, by decide, rfl, rfl, q_wd 487 (by decide +kernel) (by decide +kernel), in_X0, tyX0_ok, nmX0, rfl, fun _ => Or.inl rfl⟩
theorem fa_X2_31 : q_FA RX2 31 2 5 true := ⟨RX2, TX2, 13, tyX2, rfl, by decide, rfl, rfl, q_wd 190 (by decide +kernel) (by decide +kernel), in_X2, tyX2_ok, nmX2, rfl, fun h => nomatch h⟩
theorem fa_X2_47 : q_FA RX2 47 2 9 true := ⟨RX2, TX2, 13, tyX2, rfl, by decide, rfl, rfl, q_wd 199 (by decide +kernel) (by decide +kernel), in_X2, tyX2_ok, nmX2, rfl, fun h => nomatch h⟩
theorem fa_X5_9 : q_FA RX5 9 5 8 false := ⟨RX5, TX5, 14, tyX5, rfl, by decide, rfl, rfl, q_wd 689 (by decide +kernel) (by decide +kernel), in_X5, tyX5_ok, nmX5, rfl, fun _ => Or.inl rfl⟩
theorem fa_X5_15 : q_FA RX5 15 5 9 false := ⟨RX5, TX5, 14, tyX5, rfl, by decide, rfl, rfl, q_wd 694 (by decide +kernel) (by decide +kernel), in_X5, tyX5_ok, nmX5, rfl, fun _ => Or.inl rfl⟩
theorem fa_X5_19 : q_FA RX5 19 5 10 false := ⟨RX5, TX5, 14, tyX5, rfl, by decide, rfl, rfl, q_wd 698 (by decide +kernel) (by decide +kernel), in_X5, tyX5_ok, nmX5, rfl, fun _ => Or.inl rfl⟩
theorem fa_X5_22 : q_FA RX5 22 5 11 false := ⟨RX5, TX5, 14, tyX5, rfl, by decide, rfl, rfl, q_wd 701 (by decide +kernel) (by decide +kernel), in_X5, tyX5_ok, nmX5, rfl, fun _ => Or.inl rfl⟩
theorem fa_X5_25 : q_FA RX5 25 5 12 false := ⟨RX5, TX5, 14, tyX5, rfl, by decide, rfl, rfl, q_wd 704 (by decide +kernel) (by decide +kernel), in_X5, tyX5_ok, nmX5, rfl, fun _ => Or.inl rfl⟩
theorem fa_X5_28 : q_FA RX5 28 5 0 false := ⟨RX5, TX5, 14, tyX5, rfl, by decide, rfl, rfl, q_wd 666 (by decide +kernel) (by decide +kernel), in_X5, tyX5_ok, nmX5, rfl, fun _ => Or.inl rfl⟩
theorem fa_X7_7 : q_FA RX7 7 7 0 false := ⟨RX7, TX7, 3, tyX7, rfl, by decide, rfl, rfl, q_wd 919 (by decide +kernel) (by decide +kernel), in_X7, tyX7_ok, nmX7, rfl, fun _ => Or.inl rfl⟩
theorem fa_X7_13 : q_FA RX7 13 7 1 false := ⟨RX7, TX7, 3, tyX7, rfl, by decide, rfl, rfl, q_wd 921 (by decide +kernel) (by decide +kernel), in_X7, tyX7_ok, nmX7, rfl, fun _ => Or.inl rfl⟩
theorem fa_X7_16 : q_FA RX7 16 7 2 true := ⟨RX7, TX7, 3, tyX7, rfl, by decide, rfl, rfl, q_wd 923 (by decide +kernel) (by decide +kernel), in_X7, tyX7_ok, nmX7, rfl, fun h => nomatch h⟩
theorem fa_X9_21 : q_FA RX9 21 9 2 true := ⟨RX9, TX9, 5, tyX9, rfl, by decide, rfl, rfl, q_wd 303 (by decide +kernel) (by decide +kernel), in_X9, tyX9_ok, nmX9, rfl, fun h => nomatch h⟩
theorem fa_X9_54 : q_FA RX9 54 8 0 true := ⟨RX8, TX8, 5, tyX8, rfl, by decide, rfl, rfl, q_wd 271 (by decide +kernel) (by decide +kernel), in_X8, tyX8_ok, nmX8, rfl, fun h => nomatch h⟩
theorem fa_X9_57 : q_FA RX9 57 4 0 true := ⟨RX4, TX4, 2, tyX4, rfl, by decide, rfl, rfl, q_wd 257 (by decide +kernel) (by decide +kernel), in_X4, tyX4_ok, nmX4, rfl, fun h => nomatch h⟩
theorem fa_X9_60 : q_FA RX9 60 4 1 false := ⟨RX4, TX4, 2, tyX4, rfl, by decide, rfl, rfl, q_wd 261 (by decide +kernel) (by decide +kernel), in_X4, tyX4_ok, nmX4, rfl, fun _ => Or.inl rfl⟩
theorem fa_X10_22 : q_FA RX10 22 10 0 false := ⟨RX10, TX10, 9, tyX10, rfl, by decide, rfl, rfl, q_wd 570 (by decide +kernel) (by decide +kernel), in_X10, tyX10_ok, nmX10, rfl, fun _ => Or.inl rfl⟩
theorem fa_X10_25 : q_FA RX10 25 10 1 false := ⟨RX10, TX10, 9, tyX10, rfl, by decide, rfl, rfl, q_wd 575 (by decide +kernel) (by decide +kernel), in_X10, tyX10_ok, nmX10, rfl, fun _ => Or.inl rfl⟩
theorem fa_X10_28 : q_FA RX10 28 10 8 false := ⟨RX10, TX10, 9, tyX10, rfl, by decide, rfl, rfl, q_wd 594 (by decide +kernel) (by decide +kernel), in_X10, tyX10_ok, nmX10, rfl, fun _ => Or.inl rfl⟩
theorem fa_Jxc12de_7 : q_FA RJxc12de 7 13 0 false := ⟨RJx4a65c, TJx4a65c, 3, tyJx4a65c, rfl, by decide, rfl, rfl, q_wd 152 (by decide +kernel) (by decide +kernel), in_Jx4a65c, tyJx4a65c_ok, nmJx4a65c, rfl, fun _ => Or.inl rfl⟩
theorem lk_X1_18 : q_LS RX1 18 yJ7_fill_53178 cJ7_fill_53178 4 (none : Option FieldType) 2 := ⟨q_wd 168 (by decide +kernel) (by decide +kernel), q_wd 169 (by decide +kernel) (by decide +kernel), q_wd 97 (by decide +kernel) (by decide +kernel), q_wd 170 (by decide +kernel) (by decide +kernel), ⟨by decide +kernel, by decide +kernel⟩, by decide +kernel⟩
theorem lk_X9_64 : q_LS RX9 64 yJ7_copyOf_59c91 cJ7_copyOf_59c91 3 (some (FieldType.array FieldType.int)) 2 := ⟨q_wd 903 (by decide +kernel) (by decide +kernel), q_wd 904 (by decide +kernel) (by decide +kernel), q_wd 97 (by decide +kernel) (by decide +kernel), q_wd 905 (by decide +kernel) (by decide +kernel), ⟨by decide +kernel, by decide +kernel⟩, by decide +kernel⟩
theorem lk_X11_101 : q_LV RX11 101 13 yJx4a65c_add_9ea2d cJx4a65c_add_9ea2d 2 (some FieldType.boolean) 1 := ⟨⟨RJx4a65c, TJx4a65c, 3, rfl, rfl⟩, q_wd 500 (by decide +kernel) (by decide +kernel), q_wd 501 (by decide +kernel) (by decide +kernel), q_wd 502 (by decide +kernel) (by decide +kernel), q_wd 95 (by decide +kernel) (by decide +kernel), q_wd 503 (by decide +kernel) (by decide +kernel), ⟨by decide +kernel, by decide +kernel⟩, by decide +kernel⟩
theorem lk_X11_212 : q_LV RX11 212 9 yX9_take cX9_take 6 (some FieldType.int) 3 := ⟨⟨RX9, TX9, 5, rfl, rfl⟩, q_wd 774 (by decide +kernel) (by decide +kernel), q_wd 775 (by decide +kernel) (by decide +kernel), q_wd 776 (by decide +kernel) (by decide +kernel), q_wd 98 (by decide +kernel) (by decide +kernel), q_wd 777 (by decide +kernel) (by decide +kernel), ⟨by decide +kernel, by decide +kernel⟩, by decide +kernel⟩
theorem lk_X9_50 : q_LV RX9 50 8 yX8_firstWrong cX8_firstWrong 3 (some FieldType.int) 1 := ⟨⟨RX8, TX8, 5, rfl, rfl⟩, q_wd 778 (by decide +kernel) (by decide +kernel), q_wd 779 (by decide +kernel) (by decide +kernel), q_wd 780 (by decide +kernel) (by decide +kernel), q_wd 99 (by decide +kernel) (by decide +kernel), q_wd 781 (by decide +kernel) (by decide +kernel), ⟨by decide +kernel, by decide +kernel⟩, by decide +kernel⟩
theorem lk_X9_75 : q_LV RX9 75 13 yJx4a65c_add_9ea2d cJx4a65c_add_9ea2d 2 (some FieldType.boolean) 1 := ⟨⟨RJx4a65c, TJx4a65c, 3, rfl, rfl⟩, q_wd 932 (by decide +kernel) (by decide +kernel), q_wd 501 (by decide +kernel) (by decide +kernel), q_wd 502 (by decide +kernel) (by decide +kernel), q_wd 95 (by decide +kernel) (by decide +kernel), q_wd 503 (by decide +kernel) (by decide +kernel), ⟨by decide +kernel, by decide +kernel⟩, by decide +kernel⟩
theorem lk_X9_27 : q_LX RX9 27 yJ0_length_8abf5 cJ0_length_8abf5 1 (some FieldType.int) 0 := ⟨rfl, q_wd 288 (by decide +kernel) (by decide +kernel), q_wd 289 (by decide +kernel) (by decide +kernel), q_wd 290 (by decide +kernel) (by decide +kernel), q_wd 101 (by decide +kernel) (by decide +kernel), q_wd 291 (by decide +kernel) (by decide +kernel), ⟨by decide +kernel, by decide +kernel⟩, by decide +kernel⟩
theorem wc_X5_18 : Cond.constant RX5 18 1000000 ∈ q_gtb := q_wd 665 (by decide +kernel) (by decide +kernel)
theorem wf_Jx4a65c_39 : Cond.fieldLink RJx4a65c 39 "java/util/ArrayList" "DEFAULTCAPACITY_EMPTY_ELEMENTDATA" "[Ljava/lang/Object;" ∈ q_gtb := q_wd 148 (by decide +kernel) (by decide +kernel)
theorem wa_int : Cond.arrayClass .int ∈ q_gtb := q_wd 178 (by decide +kernel) (by decide +kernel)
theorem wa_bool : Cond.arrayClass .boolean ∈ q_gtb := q_wd 388 (by decide +kernel) (by decide +kernel)
theorem lko_X0_1 : Cond.methodLink RX0 1 Lib.objectInit ∈ q_gtb ∧ Cond.instanceMethod Lib.objectInit ∈ q_gtb ∧ Cond.code Lib.objectInit ⟨#[0xb1]⟩ 1 none ∈ q_gtb := ⟨q_wd 484 (by decide +kernel) (by decide +kernel), q_wd 128 (by decide +kernel) (by decide +kernel), q_wd 129 (by decide +kernel) (by decide +kernel)⟩
theorem lko_X1_3 : Cond.methodLink RX1 3 Lib.objectInit ∈ q_gtb ∧ Cond.instanceMethod Lib.objectInit ∈ q_gtb ∧ Cond.code Lib.objectInit ⟨#[0xb1]⟩ 1 none ∈ q_gtb := ⟨q_wd 167 (by decide +kernel) (by decide +kernel), q_wd 128 (by decide +kernel) (by decide +kernel), q_wd 129 (by decide +kernel) (by decide +kernel)⟩
theorem lko_X2_3 : Cond.methodLink RX2 3 Lib.objectInit ∈ q_gtb ∧ Cond.instanceMethod Lib.objectInit ∈ q_gtb ∧ Cond.code Lib.objectInit ⟨#[0xb1]⟩ 1 none ∈ q_gtb := ⟨q_wd 135 (by decide +kernel) (by decide +kernel), q_wd 128 (by decide +kernel) (by decide +kernel), q_wd 129 (by decide +kernel) (by decide +kernel)⟩
theorem nw_X2_9 : q_NW RX2 9 13 3 := ⟨RJx4a65c, TJx4a65c, tyJx4a65c, rfl, q_wd 136 (by decide +kernel) (by decide +kernel), q_wd 137 (by decide +kernel) (by decide +kernel), q_wd 95 (by decide +kernel) (by decide +kernel), in_Jx4a65c, tyJx4a65c_ok, rfl, by decide +kernel⟩
theorem lki_X2_11 : q_LI RX2 11 yJx4a65c_init_da8c8 cJx4a65c_init_da8c8 1 0 := ⟨q_wd 138 (by decide +kernel) (by decide +kernel), q_wd 139 (by decide +kernel) (by decide +kernel), rfl, q_wd 95 (by decide +kernel) (by decide +kernel), q_wd 140 (by decide +kernel) (by decide +kernel), ⟨by decide +kernel, by decide +kernel⟩, by decide +kernel⟩
theorem nw_X2_40 : q_NW RX2 40 1 2 := ⟨RX1, TX1, tyX1, rfl, q_wd 162 (by decide +kernel) (by decide +kernel), q_wd 163 (by decide +kernel) (by decide +kernel), q_wd 96 (by decide +kernel) (by decide +kernel), in_X1, tyX1_ok, rfl, by decide +kernel⟩
theorem lki_X2_42 : q_LI RX2 42 yX1_init cX1_init 1 0 := ⟨q_wd 164 (by decide +kernel) (by decide +kernel), q_wd 165 (by decide +kernel) (by decide +kernel), rfl, q_wd 96 (by decide +kernel) (by decide +kernel), q_wd 166 (by decide +kernel) (by decide +kernel), ⟨by decide +kernel, by decide +kernel⟩, by decide +kernel⟩
theorem lko_X3_3 : Cond.methodLink RX3 3 Lib.objectInit ∈ q_gtb ∧ Cond.instanceMethod Lib.objectInit ∈ q_gtb ∧ Cond.code Lib.objectInit ⟨#[0xb1]⟩ 1 none ∈ q_gtb := ⟨q_wd 357 (by decide +kernel) (by decide +kernel), q_wd 128 (by decide +kernel) (by decide +kernel), q_wd 129 (by decide +kernel) (by decide +kernel)⟩
theorem nw_X3_9 : q_NW RX3 9 4 2 := ⟨RX4, TX4, tyX4, rfl, q_wd 358 (by decide +kernel) (by decide +kernel), q_wd 251 (by decide +kernel) (by decide +kernel), q_wd 100 (by decide +kernel) (by decide +kernel), in_X4, tyX4_ok, rfl, by decide +kernel⟩
theorem lki_X3_11 : q_LI RX3 11 yX4_init cX4_init 2 1 := ⟨q_wd 359 (by decide +kernel) (by decide +kernel), q_wd 253 (by decide +kernel) (by decide +kernel), rfl, q_wd 100 (by decide +kernel) (by decide +kernel), q_wd 254 (by decide +kernel) (by decide +kernel), ⟨by decide +kernel, by decide +kernel⟩, by decide +kernel⟩
theorem lko_X4_3 : Cond.methodLink RX4 3 Lib.objectInit ∈ q_gtb ∧ Cond.instanceMethod Lib.objectInit ∈ q_gtb ∧ Cond.code Lib.objectInit ⟨#[0xb1]⟩ 1 none ∈ q_gtb := ⟨q_wd 255 (by decide +kernel) (by decide +kernel), q_wd 128 (by decide +kernel) (by decide +kernel), q_wd 129 (by decide +kernel) (by decide +kernel)⟩
theorem lko_X5_3 : Cond.methodLink RX5 3 Lib.objectInit ∈ q_gtb ∧ Cond.instanceMethod Lib.objectInit ∈ q_gtb ∧ Cond.code Lib.objectInit ⟨#[0xb1]⟩ 1 none ∈ q_gtb := ⟨q_wd 664 (by decide +kernel) (by decide +kernel), q_wd 128 (by decide +kernel) (by decide +kernel), q_wd 129 (by decide +kernel) (by decide +kernel)⟩
theorem lko_X6_3 : Cond.methodLink RX6 3 Lib.objectInit ∈ q_gtb ∧ Cond.instanceMethod Lib.objectInit ∈ q_gtb ∧ Cond.code Lib.objectInit ⟨#[0xb1]⟩ 1 none ∈ q_gtb := ⟨q_wd 323 (by decide +kernel) (by decide +kernel), q_wd 128 (by decide +kernel) (by decide +kernel), q_wd 129 (by decide +kernel) (by decide +kernel)⟩
theorem nw_X6_9 : q_NW RX6 9 4 2 := ⟨RX4, TX4, tyX4, rfl, q_wd 324 (by decide +kernel) (by decide +kernel), q_wd 251 (by decide +kernel) (by decide +kernel), q_wd 100 (by decide +kernel) (by decide +kernel), in_X4, tyX4_ok, rfl, by decide +kernel⟩
theorem lki_X6_11 : q_LI RX6 11 yX4_init cX4_init 2 1 := ⟨q_wd 325 (by decide +kernel) (by decide +kernel), q_wd 253 (by decide +kernel) (by decide +kernel), rfl, q_wd 100 (by decide +kernel) (by decide +kernel), q_wd 254 (by decide +kernel) (by decide +kernel), ⟨by decide +kernel, by decide +kernel⟩, by decide +kernel⟩
theorem lko_X7_1 : Cond.methodLink RX7 1 Lib.objectInit ∈ q_gtb ∧ Cond.instanceMethod Lib.objectInit ∈ q_gtb ∧ Cond.code Lib.objectInit ⟨#[0xb1]⟩ 1 none ∈ q_gtb := ⟨q_wd 918 (by decide +kernel) (by decide +kernel), q_wd 128 (by decide +kernel) (by decide +kernel), q_wd 129 (by decide +kernel) (by decide +kernel)⟩
theorem lko_X8_3 : Cond.methodLink RX8 3 Lib.objectInit ∈ q_gtb ∧ Cond.instanceMethod Lib.objectInit ∈ q_gtb ∧ Cond.code Lib.objectInit ⟨#[0xb1]⟩ 1 none ∈ q_gtb := ⟨q_wd 249 (by decide +kernel) (by decide +kernel), q_wd 128 (by decide +kernel) (by decide +kernel), q_wd 129 (by decide +kernel) (by decide +kernel)⟩
theorem nw_X8_9 : q_NW RX8 9 4 2 := ⟨RX4, TX4, tyX4, rfl, q_wd 250 (by decide +kernel) (by decide +kernel), q_wd 251 (by decide +kernel) (by decide +kernel), q_wd 100 (by decide +kernel) (by decide +kernel), in_X4, tyX4_ok, rfl, by decide +kernel⟩
theorem lki_X8_11 : q_LI RX8 11 yX4_init cX4_init 2 1 := ⟨q_wd 252 (by decide +kernel) (by decide +kernel), q_wd 253 (by decide +kernel) (by decide +kernel), rfl, q_wd 100 (by decide +kernel) (by decide +kernel), q_wd 254 (by decide +kernel) (by decide +kernel), ⟨by decide +kernel, by decide +kernel⟩, by decide +kernel⟩
theorem lko_X9_3 : Cond.methodLink RX9 3 Lib.objectInit ∈ q_gtb ∧ Cond.instanceMethod Lib.objectInit ∈ q_gtb ∧ Cond.code Lib.objectInit ⟨#[0xb1]⟩ 1 none ∈ q_gtb := ⟨q_wd 241 (by decide +kernel) (by decide +kernel), q_wd 128 (by decide +kernel) (by decide +kernel), q_wd 129 (by decide +kernel) (by decide +kernel)⟩
theorem nw_X9_9 : q_NW RX9 9 13 3 := ⟨RJx4a65c, TJx4a65c, tyJx4a65c, rfl, q_wd 242 (by decide +kernel) (by decide +kernel), q_wd 137 (by decide +kernel) (by decide +kernel), q_wd 95 (by decide +kernel) (by decide +kernel), in_Jx4a65c, tyJx4a65c_ok, rfl, by decide +kernel⟩
theorem lki_X9_11 : q_LI RX9 11 yJx4a65c_init_da8c8 cJx4a65c_init_da8c8 1 0 := ⟨q_wd 243 (by decide +kernel) (by decide +kernel), q_wd 139 (by decide +kernel) (by decide +kernel), rfl, q_wd 95 (by decide +kernel) (by decide +kernel), q_wd 140 (by decide +kernel) (by decide +kernel), ⟨by decide +kernel, by decide +kernel⟩, by decide +kernel⟩
theorem nw_X9_18 : q_NW RX9 18 8 5 := ⟨RX8, TX8, tyX8, rfl, q_wd 244 (by decide +kernel) (by decide +kernel), q_wd 245 (by decide +kernel) (by decide +kernel), q_wd 99 (by decide +kernel) (by decide +kernel), in_X8, tyX8_ok, rfl, by decide +kernel⟩
theorem nw_X9_37 : q_NW RX9 37 4 2 := ⟨RX4, TX4, tyX4, rfl, q_wd 298 (by decide +kernel) (by decide +kernel), q_wd 251 (by decide +kernel) (by decide +kernel), q_wd 100 (by decide +kernel) (by decide +kernel), in_X4, tyX4_ok, rfl, by decide +kernel⟩
theorem lki_X9_39 : q_LI RX9 39 yX4_init cX4_init 2 1 := ⟨q_wd 299 (by decide +kernel) (by decide +kernel), q_wd 253 (by decide +kernel) (by decide +kernel), rfl, q_wd 100 (by decide +kernel) (by decide +kernel), q_wd 254 (by decide +kernel) (by decide +kernel), ⟨by decide +kernel, by decide +kernel⟩, by decide +kernel⟩
theorem lko_X10_3 : Cond.methodLink RX10 3 Lib.objectInit ∈ q_gtb ∧ Cond.instanceMethod Lib.objectInit ∈ q_gtb ∧ Cond.code Lib.objectInit ⟨#[0xb1]⟩ 1 none ∈ q_gtb := ⟨q_wd 569 (by decide +kernel) (by decide +kernel), q_wd 128 (by decide +kernel) (by decide +kernel), q_wd 129 (by decide +kernel) (by decide +kernel)⟩
theorem lko_X11_1 : Cond.methodLink RX11 1 Lib.objectInit ∈ q_gtb ∧ Cond.instanceMethod Lib.objectInit ∈ q_gtb ∧ Cond.code Lib.objectInit ⟨#[0xb1]⟩ 1 none ∈ q_gtb := ⟨q_wd 127 (by decide +kernel) (by decide +kernel), q_wd 128 (by decide +kernel) (by decide +kernel), q_wd 129 (by decide +kernel) (by decide +kernel)⟩
theorem nw_X11_7 : q_NW RX11 7 2 13 := ⟨RX2, TX2, tyX2, rfl, q_wd 130 (by decide +kernel) (by decide +kernel), q_wd 131 (by decide +kernel) (by decide +kernel), q_wd 92 (by decide +kernel) (by decide +kernel), in_X2, tyX2_ok, rfl, by decide +kernel⟩
theorem nw_X11_16 : q_NW RX11 16 9 5 := ⟨RX9, TX9, tyX9, rfl, q_wd 236 (by decide +kernel) (by decide +kernel), q_wd 237 (by decide +kernel) (by decide +kernel), q_wd 98 (by decide +kernel) (by decide +kernel), in_X9, tyX9_ok, rfl, by decide +kernel⟩
theorem lki_X11_18 : q_LI RX11 18 yX9_init cX9_init 2 1 := ⟨q_wd 238 (by decide +kernel) (by decide +kernel), q_wd 239 (by decide +kernel) (by decide +kernel), rfl, q_wd 98 (by decide +kernel) (by decide +kernel), q_wd 240 (by decide +kernel) (by decide +kernel), ⟨by decide +kernel, by decide +kernel⟩, by decide +kernel⟩
theorem nw_X11_25 : q_NW RX11 25 6 8 := ⟨RX6, TX6, tyX6, rfl, q_wd 318 (by decide +kernel) (by decide +kernel), q_wd 319 (by decide +kernel) (by decide +kernel), q_wd 102 (by decide +kernel) (by decide +kernel), in_X6, tyX6_ok, rfl, by decide +kernel⟩
theorem lki_X11_27 : q_LI RX11 27 yX6_init cX6_init 2 1 := ⟨q_wd 320 (by decide +kernel) (by decide +kernel), q_wd 321 (by decide +kernel) (by decide +kernel), rfl, q_wd 102 (by decide +kernel) (by decide +kernel), q_wd 322 (by decide +kernel) (by decide +kernel), ⟨by decide +kernel, by decide +kernel⟩, by decide +kernel⟩
theorem nw_X11_32 : q_NW RX11 32 3 8 := ⟨RX3, TX3, tyX3, rfl, q_wd 352 (by decide +kernel) (by decide +kernel), q_wd 353 (by decide +kernel) (by decide +kernel), q_wd 103 (by decide +kernel) (by decide +kernel), in_X3, tyX3_ok, rfl, by decide +kernel⟩
theorem lki_X11_34 : q_LI RX11 34 yX3_init cX3_init 2 1 := ⟨q_wd 354 (by decide +kernel) (by decide +kernel), q_wd 355 (by decide +kernel) (by decide +kernel), rfl, q_wd 103 (by decide +kernel) (by decide +kernel), q_wd 356 (by decide +kernel) (by decide +kernel), ⟨by decide +kernel, by decide +kernel⟩, by decide +kernel⟩
theorem nw_X11_39 : q_NW RX11 39 4 2 := ⟨RX4, TX4, tyX4, rfl, q_wd 389 (by decide +kernel) (by decide +kernel), q_wd 251 (by decide +kernel) (by decide +kernel), q_wd 100 (by decide +kernel) (by decide +kernel), in_X4, tyX4_ok, rfl, by decide +kernel⟩
theorem lki_X11_41 : q_LI RX11 41 yX4_init cX4_init 2 1 := ⟨q_wd 390 (by decide +kernel) (by decide +kernel), q_wd 253 (by decide +kernel) (by decide +kernel), rfl, q_wd 100 (by decide +kernel) (by decide +kernel), q_wd 254 (by decide +kernel) (by decide +kernel), ⟨by decide +kernel, by decide +kernel⟩, by decide +kernel⟩
theorem lko_X12_511 : Cond.methodLink RX12 511 Lib.objectInit ∈ q_gtb ∧ Cond.instanceMethod Lib.objectInit ∈ q_gtb ∧ Cond.code Lib.objectInit ⟨#[0xb1]⟩ 1 none ∈ q_gtb := ⟨q_wd 1904 (by decide +kernel) (by decide +kernel), q_wd 128 (by decide +kernel) (by decide +kernel), q_wd 129 (by decide +kernel) (by decide +kernel)⟩
theorem nw_X11_96 : q_NW RX11 96 0 4 := ⟨RX0, TX0, tyX0, rfl, q_wd 479 (by decide +kernel) (by decide +kernel), q_wd 480 (by decide +kernel) (by decide +kernel), q_wd 108 (by decide +kernel) (by decide +kernel), in_X0, tyX0_ok, rfl, by decide +kernel⟩
theorem lki_X11_98 : q_LI RX11 98 yX0_init cX0_init 5 4 := ⟨q_wd 481 (by decide +kernel) (by decide +kernel), q_wd 482 (by decide +kernel) (by decide +kernel), rfl, q_wd 108 (by decide +kernel) (by decide +kernel), q_wd 483 (by decide +kernel) (by decide +kernel), ⟨by decide +kernel, by decide +kernel⟩, by decide +kernel⟩
theorem nw_X11_108 : q_NW RX11 108 10 9 := ⟨RX10, TX10, tyX10, rfl, q_wd 564 (by decide +kernel) (by decide +kernel), q_wd 565 (by decide +kernel) (by decide +kernel), q_wd 111 (by decide +kernel) (by decide +kernel), in_X10, tyX10_ok, rfl, by decide +kernel⟩
theorem lki_X11_110 : q_LI RX11 110 yX10_init cX10_init 3 2 := ⟨q_wd 566 (by decide +kernel) (by decide +kernel), q_wd 567 (by decide +kernel) (by decide +kernel), rfl, q_wd 111 (by decide +kernel) (by decide +kernel), q_wd 568 (by decide +kernel) (by decide +kernel), ⟨by decide +kernel, by decide +kernel⟩, by decide +kernel⟩
theorem nw_X11_161 : q_NW RX11 161 5 14 := ⟨RX5, TX5, tyX5, rfl, q_wd 659 (by decide +kernel) (by decide +kernel), q_wd 660 (by decide +kernel) (by decide +kernel), q_wd 112 (by decide +kernel) (by decide +kernel), in_X5, tyX5_ok, rfl, by decide +kernel⟩
theorem lki_X11_163 : q_LI RX11 163 yX5_init cX5_init 2 1 := ⟨q_wd 661 (by decide +kernel) (by decide +kernel), q_wd 662 (by decide +kernel) (by decide +kernel), rfl, q_wd 112 (by decide +kernel) (by decide +kernel), q_wd 663 (by decide +kernel) (by decide +kernel), ⟨by decide +kernel, by decide +kernel⟩, by decide +kernel⟩
theorem nw_X9_70 : q_NW RX9 70 7 3 := ⟨RX7, TX7, tyX7, rfl, q_wd 913 (by decide +kernel) (by decide +kernel), q_wd 914 (by decide +kernel) (by decide +kernel), q_wd 116 (by decide +kernel) (by decide +kernel), in_X7, tyX7_ok, rfl, by decide +kernel⟩
theorem lki_X9_72 : q_LI RX9 72 yX7_init cX7_init 4 3 := ⟨q_wd 915 (by decide +kernel) (by decide +kernel), q_wd 916 (by decide +kernel) (by decide +kernel), rfl, q_wd 116 (by decide +kernel) (by decide +kernel), q_wd 917 (by decide +kernel) (by decide +kernel), ⟨by decide +kernel, by decide +kernel⟩, by decide +kernel⟩
theorem lki_Jx4a65c_1 : q_LI RJx4a65c 1 yJxc12de_init_da8c8 cJxc12de_init_da8c8 1 0 := ⟨q_wd 141 (by decide +kernel) (by decide +kernel), q_wd 142 (by decide +kernel) (by decide +kernel), rfl, q_wd 94 (by decide +kernel) (by decide +kernel), q_wd 143 (by decide +kernel) (by decide +kernel), ⟨by decide +kernel, by decide +kernel⟩, by decide +kernel⟩
theorem lko_Jxa1e45_1 : Cond.methodLink RJxa1e45 1 Lib.objectInit ∈ q_gtb ∧ Cond.instanceMethod Lib.objectInit ∈ q_gtb ∧ Cond.code Lib.objectInit ⟨#[0xb1]⟩ 1 none ∈ q_gtb := ⟨q_wd 147 (by decide +kernel) (by decide +kernel), q_wd 128 (by decide +kernel) (by decide +kernel), q_wd 129 (by decide +kernel) (by decide +kernel)⟩
theorem lki_Jxc12de_1 : q_LI RJxc12de 1 yJxa1e45_init_da8c8 cJxa1e45_init_da8c8 1 0 := ⟨q_wd 144 (by decide +kernel) (by decide +kernel), q_wd 145 (by decide +kernel) (by decide +kernel), rfl, q_wd 93 (by decide +kernel) (by decide +kernel), q_wd 146 (by decide +kernel) (by decide +kernel), ⟨by decide +kernel, by decide +kernel⟩, by decide +kernel⟩
