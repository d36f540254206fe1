theorem dX5_init_0 : decode cX5_init 0 = .ok (.aload_n 0, 1) := by decide +kernel
theorem dX5_init_1 : decode cX5_init 1 = .ok (.invokespecial 3, 3) := by decide +kernel
theorem dX5_init_4 : decode cX5_init 4 = .ok (.aload_n 0, 1) := by decide +kernel
theorem dX5_init_5 : decode cX5_init 5 = .ok (.bipush 100, 2) := by decide +kernel
theorem dX5_init_7 : decode cX5_init 7 = .ok (.newarray .int, 2) := by decide +kernel
theorem dX5_init_9 : decode cX5_init 9 = .ok (.putfield 11, 3) := by decide +kernel
theorem dX5_init_12 : decode cX5_init 12 = .ok (.return_, 1) := by decide +kernel
theorem dX0_init_0 : decode cX0_init 0 = .ok (.aload_n 0, 1) := by decide +kernel
theorem dX0_init_1 : decode cX0_init 1 = .ok (.invokespecial 3, 3) := by decide +kernel
theorem dX0_init_4 : decode cX0_init 4 = .ok (.aload_n 0, 1) := by decide +kernel
theorem dX0_init_5 : decode cX0_init 5 = .ok (.sipush 240, 3) := by decide +kernel
theorem dX0_init_8 : decode cX0_init 8 = .ok (.newarray .int, 2) := by decide +kernel
theorem dX0_init_10 : decode cX0_init 10 = .ok (.putfield 11, 3) := by decide +kernel
theorem dX0_init_13 : decode cX0_init 13 = .ok (.return_, 1) := by decide +kernel
theorem dX9_init_0 : decode cX9_init 0 = .ok (.aload_n 0, 1) := by decide +kernel
theorem dX9_init_1 : decode cX9_init 1 = .ok (.invokespecial 3, 3) := by decide +kernel
theorem dX9_init_4 : decode cX9_init 4 = .ok (.aload_n 0, 1) := by decide +kernel
theorem dX9_init_5 : decode cX9_init 5 = .ok (.new 9, 3) := by decide +kernel
theorem dX9_init_8 : decode cX9_init 8 = .ok (.dup, 1) := by decide +kernel
theorem dX9_init_9 : decode cX9_init 9 = .ok (.invokespecial 11, 3) := by decide +kernel
theorem dX9_init_12 : decode cX9_init 12 = .ok (.putfield 12, 3) := by decide +kernel
theorem dX9_init_15 : decode cX9_init 15 = .ok (.aload_n 0, 1) := by decide +kernel
theorem dX9_init_16 : decode cX9_init 16 = .ok (.new 18, 3) := by decide +kernel
theorem dX9_init_19 : decode cX9_init 19 = .ok (.dup, 1) := by decide +kernel
theorem dX9_init_20 : decode cX9_init 20 = .ok (.invokespecial 20, 3) := by decide +kernel
theorem dX9_init_23 : decode cX9_init 23 = .ok (.putfield 21, 3) := by decide +kernel
theorem dX9_init_26 : decode cX9_init 26 = .ok (.aload_n 0, 1) := by decide +kernel
theorem dX9_init_27 : decode cX9_init 27 = .ok (.iconst 5, 1) := by decide +kernel
theorem dX9_init_28 : decode cX9_init 28 = .ok (.newarray .int, 2) := by decide +kernel
theorem dX9_init_30 : decode cX9_init 30 = .ok (.putfield 25, 3) := by decide +kernel
theorem dX9_init_33 : decode cX9_init 33 = .ok (.aload_n 0, 1) := by decide +kernel
theorem dX9_init_34 : decode cX9_init 34 = .ok (.iconst 5, 1) := by decide +kernel
theorem dX9_init_35 : decode cX9_init 35 = .ok (.newarray .int, 2) := by decide +kernel
theorem dX9_init_37 : decode cX9_init 37 = .ok (.putfield 29, 3) := by decide +kernel
theorem dX9_init_40 : decode cX9_init 40 = .ok (.aload_n 0, 1) := by decide +kernel
theorem dX9_init_41 : decode cX9_init 41 = .ok (.iconst 5, 1) := by decide +kernel
theorem dX9_init_42 : decode cX9_init 42 = .ok (.newarray .int, 2) := by decide +kernel
theorem dX9_init_44 : decode cX9_init 44 = .ok (.putfield 32, 3) := by decide +kernel
theorem dX9_init_47 : decode cX9_init 47 = .ok (.aload_n 0, 1) := by decide +kernel
theorem dX9_init_48 : decode cX9_init 48 = .ok (.iconst 5, 1) := by decide +kernel
theorem dX9_init_49 : decode cX9_init 49 = .ok (.newarray .int, 2) := by decide +kernel
theorem dX9_init_51 : decode cX9_init 51 = .ok (.putfield 35, 3) := by decide +kernel
theorem dX9_init_54 : decode cX9_init 54 = .ok (.aload_n 0, 1) := by decide +kernel
theorem dX9_init_55 : decode cX9_init 55 = .ok (.bipush 30, 2) := by decide +kernel
theorem dX9_init_57 : decode cX9_init 57 = .ok (.newarray .int, 2) := by decide +kernel
theorem dX9_init_59 : decode cX9_init 59 = .ok (.putfield 38, 3) := by decide +kernel
theorem dX9_init_62 : decode cX9_init 62 = .ok (.aload_n 0, 1) := by decide +kernel
theorem dX9_init_63 : decode cX9_init 63 = .ok (.bipush 30, 2) := by decide +kernel
theorem dX9_init_65 : decode cX9_init 65 = .ok (.newarray .int, 2) := by decide +kernel
theorem dX9_init_67 : decode cX9_init 67 = .ok (.putfield 41, 3) := by decide +kernel
theorem dX9_init_70 : decode cX9_init 70 = .ok (.aload_n 0, 1) := by decide +kernel
theorem dX9_init_71 : decode cX9_init 71 = .ok (.bipush 30, 2) := by decide +kernel
theorem dX9_init_73 : decode cX9_init 73 = .ok (.newarray .int, 2) := by decide +kernel
theorem dX9_init_75 : decode cX9_init 75 = .ok (.putfield 44, 3) := by decide +kernel
theorem dX9_init_78 : decode cX9_init 78 = .ok (.aload_n 0, 1) := by decide +kernel
theorem dX9_init_79 : decode cX9_init 79 = .ok (.bipush 30, 2) := by decide +kernel
theorem dX9_init_81 : decode cX9_init 81 = .ok (.newarray .int, 2) := by decide +kernel
theorem dX9_init_83 : decode cX9_init 83 = .ok (.putfield 47, 3) := by decide +kernel
theorem dX9_init_86 : decode cX9_init 86 = .ok (.aload_n 0, 1) := by decide +kernel
theorem dX9_init_87 : decode cX9_init 87 = .ok (.bipush 30, 2) := by decide +kernel
theorem dX9_init_89 : decode cX9_init 89 = .ok (.newarray .int, 2) := by decide +kernel
theorem dX9_init_91 : decode cX9_init 91 = .ok (.putfield 50, 3) := by decide +kernel
theorem dX9_init_94 : decode cX9_init 94 = .ok (.return_, 1) := by decide +kernel
theorem dX1_init_0 : decode cX1_init 0 = .ok (.aload_n 0, 1) := by decide +kernel
theorem dX1_init_1 : decode cX1_init 1 = .ok (.invokespecial 3, 3) := by decide +kernel
theorem dX1_init_4 : decode cX1_init 4 = .ok (.aload_n 0, 1) := by decide +kernel
theorem dX1_init_5 : decode cX1_init 5 = .ok (.iconst 3, 1) := by decide +kernel
theorem dX1_init_6 : decode cX1_init 6 = .ok (.newarray .int, 2) := by decide +kernel
theorem dX1_init_8 : decode cX1_init 8 = .ok (.putfield 9, 3) := by decide +kernel
theorem dX1_init_11 : decode cX1_init 11 = .ok (.aload_n 0, 1) := by decide +kernel
theorem dX1_init_12 : decode cX1_init 12 = .ok (.bipush 24, 2) := by decide +kernel
theorem dX1_init_14 : decode cX1_init 14 = .ok (.newarray .int, 2) := by decide +kernel
theorem dX1_init_16 : decode cX1_init 16 = .ok (.putfield 15, 3) := by decide +kernel
theorem dX1_init_19 : decode cX1_init 19 = .ok (.aload_n 0, 1) := by decide +kernel
theorem dX1_init_20 : decode cX1_init 20 = .ok (.iconst 5, 1) := by decide +kernel
theorem dX1_init_21 : decode cX1_init 21 = .ok (.newarray .int, 2) := by decide +kernel
theorem dX1_init_23 : decode cX1_init 23 = .ok (.putfield 18, 3) := by decide +kernel
theorem dX1_init_26 : decode cX1_init 26 = .ok (.aload_n 0, 1) := by decide +kernel
theorem dX1_init_27 : decode cX1_init 27 = .ok (.iconst 5, 1) := by decide +kernel
theorem dX1_init_28 : decode cX1_init 28 = .ok (.newarray .int, 2) := by decide +kernel
theorem dX1_init_30 : decode cX1_init 30 = .ok (.putfield 21, 3) := by decide +kernel
theorem dX1_init_33 : decode cX1_init 33 = .ok (.aload_n 0, 1) := by decide +kernel
theorem dX1_init_34 : decode cX1_init 34 = .ok (.iconst 5, 1) := by decide +kernel
theorem dX1_init_35 : decode cX1_init 35 = .ok (.newarray .int, 2) := by decide +kernel
theorem dX1_init_37 : decode cX1_init 37 = .ok (.putfield 24, 3) := by decide +kernel
theorem dX1_init_40 : decode cX1_init 40 = .ok (.aload_n 0, 1) := by decide +kernel
theorem dX1_init_41 : decode cX1_init 41 = .ok (.iconst 5, 1) := by decide +kernel
theorem dX1_init_42 : decode cX1_init 42 = .ok (.newarray .int, 2) := by decide +kernel
theorem dX1_init_44 : decode cX1_init 44 = .ok (.putfield 27, 3) := by decide +kernel
theorem dX1_init_47 : decode cX1_init 47 = .ok (.aload_n 0, 1) := by decide +kernel
theorem dX1_init_48 : decode cX1_init 48 = .ok (.iconst 5, 1) := by decide +kernel
theorem dX1_init_49 : decode cX1_init 49 = .ok (.newarray .int, 2) := by decide +kernel
theorem dX1_init_51 : decode cX1_init 51 = .ok (.putfield 30, 3) := by decide +kernel
theorem dX1_init_54 : decode cX1_init 54 = .ok (.aload_n 0, 1) := by decide +kernel
theorem dX1_init_55 : decode cX1_init 55 = .ok (.bipush 30, 2) := by decide +kernel
theorem dX1_init_57 : decode cX1_init 57 = .ok (.newarray .int, 2) := by decide +kernel
theorem dX1_init_59 : decode cX1_init 59 = .ok (.putfield 33, 3) := by decide +kernel
theorem dX1_init_62 : decode cX1_init 62 = .ok (.aload_n 0, 1) := by decide +kernel
theorem dX1_init_63 : decode cX1_init 63 = .ok (.bipush 30, 2) := by decide +kernel
theorem dX1_init_65 : decode cX1_init 65 = .ok (.newarray .int, 2) := by decide +kernel
theorem dX1_init_67 : decode cX1_init 67 = .ok (.putfield 36, 3) := by decide +kernel
theorem dX1_init_70 : decode cX1_init 70 = .ok (.aload_n 0, 1) := by decide +kernel
theorem dX1_init_71 : decode cX1_init 71 = .ok (.bipush 24, 2) := by decide +kernel
theorem dX1_init_73 : decode cX1_init 73 = .ok (.newarray .int, 2) := by decide +kernel
theorem dX1_init_75 : decode cX1_init 75 = .ok (.putfield 39, 3) := by decide +kernel
theorem dX1_init_78 : decode cX1_init 78 = .ok (.aload_n 0, 1) := by decide +kernel
theorem dX1_init_79 : decode cX1_init 79 = .ok (.bipush 24, 2) := by decide +kernel
theorem dX1_init_81 : decode cX1_init 81 = .ok (.newarray .int, 2) := by decide +kernel
theorem dX1_init_83 : decode cX1_init 83 = .ok (.putfield 42, 3) := by decide +kernel
theorem dX1_init_86 : decode cX1_init 86 = .ok (.aload_n 0, 1) := by decide +kernel
theorem dX1_init_87 : decode cX1_init 87 = .ok (.bipush 24, 2) := by decide +kernel
theorem dX1_init_89 : decode cX1_init 89 = .ok (.newarray .int, 2) := by decide +kernel
theorem dX1_init_91 : decode cX1_init 91 = .ok (.putfield 45, 3) := by decide +kernel
theorem dX1_init_94 : decode cX1_init 94 = .ok (.return_, 1) := by decide +kernel
theorem dX10_init_0 : decode cX10_init 0 = .ok (.aload_n 0, 1) := by decide +kernel
theorem dX10_init_1 : decode cX10_init 1 = .ok (.invokespecial 3, 3) := by decide +kernel
theorem dX10_init_4 : decode cX10_init 4 = .ok (.aload_n 0, 1) := by decide +kernel
theorem dX10_init_5 : decode cX10_init 5 = .ok (.aload_n 1, 1) := by decide +kernel
theorem dX10_init_6 : decode cX10_init 6 = .ok (.putfield 9, 3) := by decide +kernel
theorem dX10_init_9 : decode cX10_init 9 = .ok (.aload_n 0, 1) := by decide +kernel
theorem dX10_init_10 : decode cX10_init 10 = .ok (.aload_n 2, 1) := by decide +kernel
theorem dX10_init_11 : decode cX10_init 11 = .ok (.putfield 15, 3) := by decide +kernel
theorem dX10_init_14 : decode cX10_init 14 = .ok (.return_, 1) := by decide +kernel
theorem dX8_init_0 : decode cX8_init 0 = .ok (.aload_n 0, 1) := by decide +kernel
theorem dX8_init_1 : decode cX8_init 1 = .ok (.invokespecial 3, 3) := by decide +kernel
theorem dX8_init_4 : decode cX8_init 4 = .ok (.aload_n 0, 1) := by decide +kernel
theorem dX8_init_5 : decode cX8_init 5 = .ok (.bipush 8, 2) := by decide +kernel
theorem dX8_init_7 : decode cX8_init 7 = .ok (.newarray .int, 2) := by decide +kernel
theorem dX8_init_9 : decode cX8_init 9 = .ok (.putfield 9, 3) := by decide +kernel
theorem dX8_init_12 : decode cX8_init 12 = .ok (.aload_n 0, 1) := by decide +kernel
theorem dX8_init_13 : decode cX8_init 13 = .ok (.bipush 6, 2) := by decide +kernel
theorem dX8_init_15 : decode cX8_init 15 = .ok (.newarray .int, 2) := by decide +kernel
theorem dX8_init_17 : decode cX8_init 17 = .ok (.putfield 15, 3) := by decide +kernel
theorem dX8_init_20 : decode cX8_init 20 = .ok (.aload_n 0, 1) := by decide +kernel
theorem dX8_init_21 : decode cX8_init 21 = .ok (.aload_n 1, 1) := by decide +kernel
theorem dX8_init_22 : decode cX8_init 22 = .ok (.putfield 18, 3) := by decide +kernel
theorem dX8_init_25 : decode cX8_init 25 = .ok (.aload_n 0, 1) := by decide +kernel
theorem dX8_init_26 : decode cX8_init 26 = .ok (.aload_n 2, 1) := by decide +kernel
theorem dX8_init_27 : decode cX8_init 27 = .ok (.putfield 22, 3) := by decide +kernel
theorem dX8_init_30 : decode cX8_init 30 = .ok (.return_, 1) := by decide +kernel
theorem dX2_init_0 : decode cX2_init 0 = .ok (.aload_n 0, 1) := by decide +kernel
theorem dX2_init_1 : decode cX2_init 1 = .ok (.invokespecial 3, 3) := by decide +kernel
theorem dX2_init_4 : decode cX2_init 4 = .ok (.aload_n 0, 1) := by decide +kernel
theorem dX2_init_5 : decode cX2_init 5 = .ok (.new 9, 3) := by decide +kernel
theorem dX2_init_8 : decode cX2_init 8 = .ok (.dup, 1) := by decide +kernel
theorem dX2_init_9 : decode cX2_init 9 = .ok (.invokespecial 11, 3) := by decide +kernel
theorem dX2_init_12 : decode cX2_init 12 = .ok (.putfield 12, 3) := by decide +kernel
theorem dX2_init_15 : decode cX2_init 15 = .ok (.aload_n 0, 1) := by decide +kernel
theorem dX2_init_16 : decode cX2_init 16 = .ok (.aload_n 1, 1) := by decide +kernel
theorem dX2_init_17 : decode cX2_init 17 = .ok (.putfield 18, 3) := by decide +kernel
theorem dX2_init_20 : decode cX2_init 20 = .ok (.return_, 1) := by decide +kernel
theorem dX6_init_0 : decode cX6_init 0 = .ok (.aload_n 0, 1) := by decide +kernel
theorem dX6_init_1 : decode cX6_init 1 = .ok (.invokespecial 3, 3) := by decide +kernel
theorem dX6_init_4 : decode cX6_init 4 = .ok (.aload_n 0, 1) := by decide +kernel
theorem dX6_init_5 : decode cX6_init 5 = .ok (.new 9, 3) := by decide +kernel
theorem dX6_init_8 : decode cX6_init 8 = .ok (.dup, 1) := by decide +kernel
theorem dX6_init_9 : decode cX6_init 9 = .ok (.invokespecial 11, 3) := by decide +kernel
theorem dX6_init_12 : decode cX6_init 12 = .ok (.putfield 12, 3) := by decide +kernel
theorem dX6_init_15 : decode cX6_init 15 = .ok (.aload_n 0, 1) := by decide +kernel
theorem dX6_init_16 : decode cX6_init 16 = .ok (.aload_n 1, 1) := by decide +kernel
theorem dX6_init_17 : decode cX6_init 17 = .ok (.putfield 18, 3) := by decide +kernel
theorem dX6_init_20 : decode cX6_init 20 = .ok (.aload_n 0, 1) := by decide +kernel
theorem dX6_init_21 : decode cX6_init 21 = .ok (.aload_n 2, 1) := by decide +kernel
theorem dX6_init_22 : decode cX6_init 22 = .ok (.putfield 22, 3) := by decide +kernel
theorem dX6_init_25 : decode cX6_init 25 = .ok (.return_, 1) := by decide +kernel
theorem dX3_init_0 : decode cX3_init 0 = .ok (.aload_n 0, 1) := by decide +kernel
theorem dX3_init_1 : decode cX3_init 1 = .ok (.invokespecial 3, 3) := by decide +kernel
theorem dX3_init_4 : decode cX3_init 4 = .ok (.aload_n 0, 1) := by decide +kernel
theorem dX3_init_5 : decode cX3_init 5 = .ok (.new 9, 3) := by decide +kernel
theorem dX3_init_8 : decode cX3_init 8 = .ok (.dup, 1) := by decide +kernel
theorem dX3_init_9 : decode cX3_init 9 = .ok (.invokespecial 11, 3) := by decide +kernel
theorem dX3_init_12 : decode cX3_init 12 = .ok (.putfield 12, 3) := by decide +kernel
theorem dX3_init_15 : decode cX3_init 15 = .ok (.aload_n 0, 1) := by decide +kernel
theorem dX3_init_16 : decode cX3_init 16 = .ok (.aload_n 2, 1) := by decide +kernel
theorem dX3_init_17 : decode cX3_init 17 = .ok (.putfield 18, 3) := by decide +kernel
theorem dX3_init_20 : decode cX3_init 20 = .ok (.aload_n 0, 1) := by decide +kernel
theorem dX3_init_21 : decode cX3_init 21 = .ok (.new 21, 3) := by decide +kernel
theorem dX3_init_24 : decode cX3_init 24 = .ok (.dup, 1) := by decide +kernel
theorem dX3_init_25 : decode cX3_init 25 = .ok (.aload_n 1, 1) := by decide +kernel
theorem dX3_init_26 : decode cX3_init 26 = .ok (.aload_n 0, 1) := by decide +kernel
theorem dX3_init_27 : decode cX3_init 27 = .ok (.getfield 12, 3) := by decide +kernel
theorem dX3_init_30 : decode cX3_init 30 = .ok (.invokespecial 23, 3) := by decide +kernel
theorem dX3_init_33 : decode cX3_init 33 = .ok (.putfield 26, 3) := by decide +kernel
theorem dX3_init_36 : decode cX3_init 36 = .ok (.return_, 1) := by decide +kernel
theorem dX12_init_0 : decode cX12_init 0 = .ok (.aload_n 0, 1) := by decide +kernel
theorem dX12_init_1 : decode cX12_init 1 = .ok (.invokespecial 1, 3) := by decide +kernel
theorem dX12_init_4 : decode cX12_init 4 = .ok (.aload_n 0, 1) := by decide +kernel
theorem dX12_init_5 : decode cX12_init 5 = .ok (.sipush 1500, 3) := by decide +kernel
theorem dX12_init_8 : decode cX12_init 8 = .ok (.newarray .byte, 2) := by decide +kernel
theorem dX12_init_10 : decode cX12_init 10 = .ok (.putfield 7, 3) := by decide +kernel
theorem dX12_init_13 : decode cX12_init 13 = .ok (.aload_n 0, 1) := by decide +kernel
theorem dX12_init_14 : decode cX12_init 14 = .ok (.iconst (-1), 1) := by decide +kernel
theorem dX12_init_15 : decode cX12_init 15 = .ok (.putfield 13, 3) := by decide +kernel
theorem dX12_init_18 : decode cX12_init 18 = .ok (.aload_n 0, 1) := by decide +kernel
theorem dX12_init_19 : decode cX12_init 19 = .ok (.sipush 209, 3) := by decide +kernel
theorem dX12_init_22 : decode cX12_init 22 = .ok (.newarray .int, 2) := by decide +kernel
theorem dX12_init_24 : decode cX12_init 24 = .ok (.putfield 17, 3) := by decide +kernel
theorem dX12_init_27 : decode cX12_init 27 = .ok (.aload_n 0, 1) := by decide +kernel
theorem dX12_init_28 : decode cX12_init 28 = .ok (.sipush 209, 3) := by decide +kernel
theorem dX12_init_31 : decode cX12_init 31 = .ok (.newarray .int, 2) := by decide +kernel
theorem dX12_init_33 : decode cX12_init 33 = .ok (.putfield 21, 3) := by decide +kernel
theorem dX12_init_36 : decode cX12_init 36 = .ok (.aload_n 0, 1) := by decide +kernel
theorem dX12_init_37 : decode cX12_init 37 = .ok (.bipush 100, 2) := by decide +kernel
theorem dX12_init_39 : decode cX12_init 39 = .ok (.newarray .int, 2) := by decide +kernel
theorem dX12_init_41 : decode cX12_init 41 = .ok (.putfield 24, 3) := by decide +kernel
theorem dX12_init_44 : decode cX12_init 44 = .ok (.aload_n 0, 1) := by decide +kernel
theorem dX12_init_45 : decode cX12_init 45 = .ok (.sipush 490, 3) := by decide +kernel
theorem dX12_init_48 : decode cX12_init 48 = .ok (.newarray .int, 2) := by decide +kernel
theorem dX12_init_50 : decode cX12_init 50 = .ok (.putfield 27, 3) := by decide +kernel
theorem dX12_init_53 : decode cX12_init 53 = .ok (.aload_n 0, 1) := by decide +kernel
theorem dX12_init_54 : decode cX12_init 54 = .ok (.sipush 7350, 3) := by decide +kernel
theorem dX12_init_57 : decode cX12_init 57 = .ok (.newarray .int, 2) := by decide +kernel
theorem dX12_init_59 : decode cX12_init 59 = .ok (.putfield 30, 3) := by decide +kernel
theorem dX12_init_62 : decode cX12_init 62 = .ok (.aload_n 0, 1) := by decide +kernel
theorem dX12_init_63 : decode cX12_init 63 = .ok (.iconst 2, 1) := by decide +kernel
theorem dX12_init_64 : decode cX12_init 64 = .ok (.newarray .boolean, 2) := by decide +kernel
theorem dX12_init_66 : decode cX12_init 66 = .ok (.putfield 33, 3) := by decide +kernel
theorem dX12_init_69 : decode cX12_init 69 = .ok (.aload_n 0, 1) := by decide +kernel
theorem dX12_init_70 : decode cX12_init 70 = .ok (.bipush 6, 2) := by decide +kernel
theorem dX12_init_72 : decode cX12_init 72 = .ok (.newarray .int, 2) := by decide +kernel
theorem dX12_init_74 : decode cX12_init 74 = .ok (.putfield 37, 3) := by decide +kernel
theorem dX12_init_77 : decode cX12_init 77 = .ok (.aload_n 0, 1) := by decide +kernel
theorem dX12_init_78 : decode cX12_init 78 = .ok (.bipush 8, 2) := by decide +kernel
theorem dX12_init_80 : decode cX12_init 80 = .ok (.newarray .int, 2) := by decide +kernel
theorem dX12_init_82 : decode cX12_init 82 = .ok (.putfield 40, 3) := by decide +kernel
theorem dX12_init_85 : decode cX12_init 85 = .ok (.aload_n 0, 1) := by decide +kernel
theorem dX12_init_86 : decode cX12_init 86 = .ok (.bipush 6, 2) := by decide +kernel
theorem dX12_init_88 : decode cX12_init 88 = .ok (.newarray .int, 2) := by decide +kernel
theorem dX12_init_90 : decode cX12_init 90 = .ok (.putfield 43, 3) := by decide +kernel
theorem dX12_init_93 : decode cX12_init 93 = .ok (.return_, 1) := by decide +kernel
theorem dX7_init_0 : decode cX7_init 0 = .ok (.aload_n 0, 1) := by decide +kernel
theorem dX7_init_1 : decode cX7_init 1 = .ok (.invokespecial 3, 3) := by decide +kernel
theorem dX7_init_4 : decode cX7_init 4 = .ok (.aload_n 0, 1) := by decide +kernel
theorem dX7_init_5 : decode cX7_init 5 = .ok (.sipush 1500, 3) := by decide +kernel
theorem dX7_init_8 : decode cX7_init 8 = .ok (.newarray .int, 2) := by decide +kernel
theorem dX7_init_10 : decode cX7_init 10 = .ok (.putfield 9, 3) := by decide +kernel
theorem dX7_init_13 : decode cX7_init 13 = .ok (.aload_n 0, 1) := by decide +kernel
theorem dX7_init_14 : decode cX7_init 14 = .ok (.bipush 21, 2) := by decide +kernel
theorem dX7_init_16 : decode cX7_init 16 = .ok (.newarray .int, 2) := by decide +kernel
theorem dX7_init_18 : decode cX7_init 18 = .ok (.putfield 15, 3) := by decide +kernel
theorem dX7_init_21 : decode cX7_init 21 = .ok (.aload_n 0, 1) := by decide +kernel
theorem dX7_init_22 : decode cX7_init 22 = .ok (.iconst (-1), 1) := by decide +kernel
theorem dX7_init_23 : decode cX7_init 23 = .ok (.putfield 18, 3) := by decide +kernel
theorem dX7_init_26 : decode cX7_init 26 = .ok (.iconst 0, 1) := by decide +kernel
theorem dX7_init_27 : decode cX7_init 27 = .ok (.istore_n 1, 1) := by decide +kernel
theorem dX7_init_28 : decode cX7_init 28 = .ok (.iconst 0, 1) := by decide +kernel
theorem dX7_init_29 : decode cX7_init 29 = .ok (.istore_n 2, 1) := by decide +kernel
theorem dX7_init_30 : decode cX7_init 30 = .ok (.iconst 0, 1) := by decide +kernel
theorem dX7_init_31 : decode cX7_init 31 = .ok (.istore_n 3, 1) := by decide +kernel
theorem dX7_init_32 : decode cX7_init 32 = .ok (.iload_n 3, 1) := by decide +kernel
theorem dX7_init_33 : decode cX7_init 33 = .ok (.ldc 22, 2) := by decide +kernel
theorem dX7_init_35 : decode cX7_init 35 = .ok (.invokevirtual 24, 3) := by decide +kernel
theorem dX7_init_38 : decode cX7_init 38 = .ok (.if_icmp .ge 61, 3) := by decide +kernel
theorem dX7_init_41 : decode cX7_init 41 = .ok (.ldc 22, 2) := by decide +kernel
theorem dX7_init_43 : decode cX7_init 43 = .ok (.iload_n 3, 1) := by decide +kernel
theorem dX7_init_44 : decode cX7_init 44 = .ok (.invokevirtual 30, 3) := by decide +kernel
theorem dX7_init_47 : decode cX7_init 47 = .ok (.istore 4, 2) := by decide +kernel
theorem dX7_init_49 : decode cX7_init 49 = .ok (.iload 4, 2) := by decide +kernel
theorem dX7_init_51 : decode cX7_init 51 = .ok (.bipush 32, 2) := by decide +kernel
theorem dX7_init_53 : decode cX7_init 53 = .ok (.if_icmp .ne 11, 3) := by decide +kernel
theorem dX7_init_56 : decode cX7_init 56 = .ok (.iinc 1 1, 3) := by decide +kernel
theorem dX7_init_59 : decode cX7_init 59 = .ok (.iconst 0, 1) := by decide +kernel
theorem dX7_init_60 : decode cX7_init 60 = .ok (.istore_n 2, 1) := by decide +kernel
theorem dX7_init_61 : decode cX7_init 61 = .ok (.goto 32, 3) := by decide +kernel
theorem dX7_init_64 : decode cX7_init 64 = .ok (.iload_n 1, 1) := by decide +kernel
theorem dX7_init_65 : decode cX7_init 65 = .ok (.bipush 21, 2) := by decide +kernel
theorem dX7_init_67 : decode cX7_init 67 = .ok (.if_icmp .ge 26, 3) := by decide +kernel
theorem dX7_init_70 : decode cX7_init 70 = .ok (.aload_n 0, 1) := by decide +kernel
theorem dX7_init_71 : decode cX7_init 71 = .ok (.getfield 15, 3) := by decide +kernel
theorem dX7_init_74 : decode cX7_init 74 = .ok (.iload_n 1, 1) := by decide +kernel
theorem dX7_init_75 : decode cX7_init 75 = .ok (.dup2, 1) := by decide +kernel
theorem dX7_init_76 : decode cX7_init 76 = .ok (.iaload, 1) := by decide +kernel
theorem dX7_init_77 : decode cX7_init 77 = .ok (.iload 4, 2) := by decide +kernel
theorem dX7_init_79 : decode cX7_init 79 = .ok (.bipush 97, 2) := by decide +kernel
theorem dX7_init_81 : decode cX7_init 81 = .ok (.isub, 1) := by decide +kernel
theorem dX7_init_82 : decode cX7_init 82 = .ok (.iconst 1, 1) := by decide +kernel
theorem dX7_init_83 : decode cX7_init 83 = .ok (.iadd, 1) := by decide +kernel
theorem dX7_init_84 : decode cX7_init 84 = .ok (.iconst 5, 1) := by decide +kernel
theorem dX7_init_85 : decode cX7_init 85 = .ok (.iload_n 2, 1) := by decide +kernel
theorem dX7_init_86 : decode cX7_init 86 = .ok (.imul, 1) := by decide +kernel
theorem dX7_init_87 : decode cX7_init 87 = .ok (.ishl, 1) := by decide +kernel
theorem dX7_init_88 : decode cX7_init 88 = .ok (.ior, 1) := by decide +kernel
theorem dX7_init_89 : decode cX7_init 89 = .ok (.iastore, 1) := by decide +kernel
theorem dX7_init_90 : decode cX7_init 90 = .ok (.iinc 2 1, 3) := by decide +kernel
theorem dX7_init_93 : decode cX7_init 93 = .ok (.iinc 3 1, 3) := by decide +kernel
theorem dX7_init_96 : decode cX7_init 96 = .ok (.goto (-64), 3) := by decide +kernel
theorem dX7_init_99 : decode cX7_init 99 = .ok (.return_, 1) := by decide +kernel
theorem dX4_init_0 : decode cX4_init 0 = .ok (.aload_n 0, 1) := by decide +kernel
theorem dX4_init_1 : decode cX4_init 1 = .ok (.invokespecial 3, 3) := by decide +kernel
theorem dX4_init_4 : decode cX4_init 4 = .ok (.aload_n 0, 1) := by decide +kernel
theorem dX4_init_5 : decode cX4_init 5 = .ok (.bipush 12, 2) := by decide +kernel
theorem dX4_init_7 : decode cX4_init 7 = .ok (.anewarray 9, 3) := by decide +kernel
theorem dX4_init_10 : decode cX4_init 10 = .ok (.putfield 11, 3) := by decide +kernel
theorem dX4_init_13 : decode cX4_init 13 = .ok (.aload_n 0, 1) := by decide +kernel
theorem dX4_init_14 : decode cX4_init 14 = .ok (.iconst 2, 1) := by decide +kernel
theorem dX4_init_15 : decode cX4_init 15 = .ok (.anewarray 9, 3) := by decide +kernel
theorem dX4_init_18 : decode cX4_init 18 = .ok (.putfield 17, 3) := by decide +kernel
theorem dX4_init_21 : decode cX4_init 21 = .ok (.iconst 0, 1) := by decide +kernel
theorem dX4_init_22 : decode cX4_init 22 = .ok (.istore_n 1, 1) := by decide +kernel
theorem dX4_init_23 : decode cX4_init 23 = .ok (.iload_n 1, 1) := by decide +kernel
theorem dX4_init_24 : decode cX4_init 24 = .ok (.bipush 12, 2) := by decide +kernel
theorem dX4_init_26 : decode cX4_init 26 = .ok (.if_icmp .ge 22, 3) := by decide +kernel
theorem dX4_init_29 : decode cX4_init 29 = .ok (.aload_n 0, 1) := by decide +kernel
theorem dX4_init_30 : decode cX4_init 30 = .ok (.getfield 11, 3) := by decide +kernel
theorem dX4_init_33 : decode cX4_init 33 = .ok (.iload_n 1, 1) := by decide +kernel
theorem dX4_init_34 : decode cX4_init 34 = .ok (.new 9, 3) := by decide +kernel
theorem dX4_init_37 : decode cX4_init 37 = .ok (.dup, 1) := by decide +kernel
theorem dX4_init_38 : decode cX4_init 38 = .ok (.invokespecial 20, 3) := by decide +kernel
theorem dX4_init_41 : decode cX4_init 41 = .ok (.aastore, 1) := by decide +kernel
theorem dX4_init_42 : decode cX4_init 42 = .ok (.iinc 1 1, 3) := by decide +kernel
theorem dX4_init_45 : decode cX4_init 45 = .ok (.goto (-22), 3) := by decide +kernel
theorem dX4_init_48 : decode cX4_init 48 = .ok (.iconst 0, 1) := by decide +kernel
theorem dX4_init_49 : decode cX4_init 49 = .ok (.istore_n 1, 1) := by decide +kernel
theorem dX4_init_50 : decode cX4_init 50 = .ok (.iload_n 1, 1) := by decide +kernel
theorem dX4_init_51 : decode cX4_init 51 = .ok (.iconst 2, 1) := by decide +kernel
theorem dX4_init_52 : decode cX4_init 52 = .ok (.if_icmp .ge 22, 3) := by decide +kernel
theorem dX4_init_55 : decode cX4_init 55 = .ok (.aload_n 0, 1) := by decide +kernel
theorem dX4_init_56 : decode cX4_init 56 = .ok (.getfield 17, 3) := by decide +kernel
theorem dX4_init_59 : decode cX4_init 59 = .ok (.iload_n 1, 1) := by decide +kernel
theorem dX4_init_60 : decode cX4_init 60 = .ok (.new 9, 3) := by decide +kernel
theorem dX4_init_63 : decode cX4_init 63 = .ok (.dup, 1) := by decide +kernel
theorem dX4_init_64 : decode cX4_init 64 = .ok (.invokespecial 20, 3) := by decide +kernel
theorem dX4_init_67 : decode cX4_init 67 = .ok (.aastore, 1) := by decide +kernel
theorem dX4_init_68 : decode cX4_init 68 = .ok (.iinc 1 1, 3) := by decide +kernel
theorem dX4_init_71 : decode cX4_init 71 = .ok (.goto (-21), 3) := by decide +kernel
theorem dX4_init_74 : decode cX4_init 74 = .ok (.return_, 1) := by decide +kernel
theorem dX11_init_0 : decode cX11_init 0 = .ok (.aload_n 0, 1) := by decide +kernel
theorem dX11_init_1 : decode cX11_init 1 = .ok (.invokespecial 1, 3) := by decide +kernel
theorem dX11_init_4 : decode cX11_init 4 = .ok (.aload_n 0, 1) := by decide +kernel
theorem dX11_init_5 : decode cX11_init 5 = .ok (.new 7, 3) := by decide +kernel
theorem dX11_init_8 : decode cX11_init 8 = .ok (.dup, 1) := by decide +kernel
theorem dX11_init_9 : decode cX11_init 9 = .ok (.invokespecial 9, 3) := by decide +kernel
theorem dX11_init_12 : decode cX11_init 12 = .ok (.putfield 10, 3) := by decide +kernel
theorem dX11_init_15 : decode cX11_init 15 = .ok (.aload_n 0, 1) := by decide +kernel
theorem dX11_init_16 : decode cX11_init 16 = .ok (.new 16, 3) := by decide +kernel
theorem dX11_init_19 : decode cX11_init 19 = .ok (.dup, 1) := by decide +kernel
theorem dX11_init_20 : decode cX11_init 20 = .ok (.invokespecial 18, 3) := by decide +kernel
theorem dX11_init_23 : decode cX11_init 23 = .ok (.putfield 19, 3) := by decide +kernel
theorem dX11_init_26 : decode cX11_init 26 = .ok (.aload_n 0, 1) := by decide +kernel
theorem dX11_init_27 : decode cX11_init 27 = .ok (.new 23, 3) := by decide +kernel
theorem dX11_init_30 : decode cX11_init 30 = .ok (.dup, 1) := by decide +kernel
theorem dX11_init_31 : decode cX11_init 31 = .ok (.aload_n 0, 1) := by decide +kernel
theorem dX11_init_32 : decode cX11_init 32 = .ok (.getfield 10, 3) := by decide +kernel
theorem dX11_init_35 : decode cX11_init 35 = .ok (.invokespecial 25, 3) := by decide +kernel
theorem dX11_init_38 : decode cX11_init 38 = .ok (.putfield 28, 3) := by decide +kernel
theorem dX11_init_41 : decode cX11_init 41 = .ok (.aload_n 0, 1) := by decide +kernel
theorem dX11_init_42 : decode cX11_init 42 = .ok (.new 32, 3) := by decide +kernel
theorem dX11_init_45 : decode cX11_init 45 = .ok (.dup, 1) := by decide +kernel
theorem dX11_init_46 : decode cX11_init 46 = .ok (.aload_n 0, 1) := by decide +kernel
theorem dX11_init_47 : decode cX11_init 47 = .ok (.getfield 10, 3) := by decide +kernel
theorem dX11_init_50 : decode cX11_init 50 = .ok (.aload_n 0, 1) := by decide +kernel
theorem dX11_init_51 : decode cX11_init 51 = .ok (.getfield 19, 3) := by decide +kernel
theorem dX11_init_54 : decode cX11_init 54 = .ok (.invokespecial 34, 3) := by decide +kernel
theorem dX11_init_57 : decode cX11_init 57 = .ok (.putfield 37, 3) := by decide +kernel
theorem dX11_init_60 : decode cX11_init 60 = .ok (.aload_n 0, 1) := by decide +kernel
theorem dX11_init_61 : decode cX11_init 61 = .ok (.new 41, 3) := by decide +kernel
theorem dX11_init_64 : decode cX11_init 64 = .ok (.dup, 1) := by decide +kernel
theorem dX11_init_65 : decode cX11_init 65 = .ok (.invokespecial 43, 3) := by decide +kernel
theorem dX11_init_68 : decode cX11_init 68 = .ok (.putfield 44, 3) := by decide +kernel
theorem dX11_init_71 : decode cX11_init 71 = .ok (.aload_n 0, 1) := by decide +kernel
theorem dX11_init_72 : decode cX11_init 72 = .ok (.new 48, 3) := by decide +kernel
theorem dX11_init_75 : decode cX11_init 75 = .ok (.dup, 1) := by decide +kernel
theorem dX11_init_76 : decode cX11_init 76 = .ok (.aload_n 0, 1) := by decide +kernel
theorem dX11_init_77 : decode cX11_init 77 = .ok (.getfield 19, 3) := by decide +kernel
theorem dX11_init_80 : decode cX11_init 80 = .ok (.aload_n 0, 1) := by decide +kernel
theorem dX11_init_81 : decode cX11_init 81 = .ok (.getfield 44, 3) := by decide +kernel
theorem dX11_init_84 : decode cX11_init 84 = .ok (.invokespecial 50, 3) := by decide +kernel
theorem dX11_init_87 : decode cX11_init 87 = .ok (.putfield 53, 3) := by decide +kernel
theorem dX11_init_90 : decode cX11_init 90 = .ok (.aload_n 0, 1) := by decide +kernel
theorem dX11_init_91 : decode cX11_init 91 = .ok (.new 57, 3) := by decide +kernel
theorem dX11_init_94 : decode cX11_init 94 = .ok (.dup, 1) := by decide +kernel
theorem dX11_init_95 : decode cX11_init 95 = .ok (.invokespecial 59, 3) := by decide +kernel
theorem dX11_init_98 : decode cX11_init 98 = .ok (.putfield 60, 3) := by decide +kernel
theorem dX11_init_101 : decode cX11_init 101 = .ok (.aload_n 0, 1) := by decide +kernel
theorem dX11_init_102 : decode cX11_init 102 = .ok (.new 64, 3) := by decide +kernel
theorem dX11_init_105 : decode cX11_init 105 = .ok (.dup, 1) := by decide +kernel
theorem dX11_init_106 : decode cX11_init 106 = .ok (.aload_n 0, 1) := by decide +kernel
theorem dX11_init_107 : decode cX11_init 107 = .ok (.getfield 19, 3) := by decide +kernel
theorem dX11_init_110 : decode cX11_init 110 = .ok (.aload_n 0, 1) := by decide +kernel
theorem dX11_init_111 : decode cX11_init 111 = .ok (.getfield 44, 3) := by decide +kernel
theorem dX11_init_114 : decode cX11_init 114 = .ok (.invokespecial 66, 3) := by decide +kernel
theorem dX11_init_117 : decode cX11_init 117 = .ok (.putfield 67, 3) := by decide +kernel
theorem dX11_init_120 : decode cX11_init 120 = .ok (.aload_n 0, 1) := by decide +kernel
theorem dX11_init_121 : decode cX11_init 121 = .ok (.new 71, 3) := by decide +kernel
theorem dX11_init_124 : decode cX11_init 124 = .ok (.dup, 1) := by decide +kernel
theorem dX11_init_125 : decode cX11_init 125 = .ok (.aload_n 0, 1) := by decide +kernel
theorem dX11_init_126 : decode cX11_init 126 = .ok (.getfield 19, 3) := by decide +kernel
theorem dX11_init_129 : decode cX11_init 129 = .ok (.aload_n 0, 1) := by decide +kernel
theorem dX11_init_130 : decode cX11_init 130 = .ok (.getfield 44, 3) := by decide +kernel
theorem dX11_init_133 : decode cX11_init 133 = .ok (.invokespecial 73, 3) := by decide +kernel
theorem dX11_init_136 : decode cX11_init 136 = .ok (.putfield 74, 3) := by decide +kernel
theorem dX11_init_139 : decode cX11_init 139 = .ok (.return_, 1) := by decide +kernel
theorem zv_409 : (Cond.methodLink RX5 3 objectInit) ∈ gwL := gwt_1 230 (by decide +kernel) rfl
theorem zv_206 : (Cond.instanceMethod objectInit) ∈ gwL := gwt_1 27 (by decide +kernel) rfl
theorem zv_207 : (Cond.code objectInit ⟨#[0xb1]⟩ 1 none) ∈ gwL := gwt_1 28 (by decide +kernel) rfl
theorem zv_415 : (Cond.fieldLink RX5 11 RX5 "rows" "[I") ∈ gwL := gwt_1 236 (by decide +kernel) rfl
theorem zv_447 : (Cond.methodLink RX0 3 objectInit) ∈ gwL := gwt_2 28 (by decide +kernel) rfl
theorem zv_452 : (Cond.fieldLink RX0 11 RX0 "rows" "[I") ∈ gwL := gwt_2 33 (by decide +kernel) rfl
theorem zv_439 : (Cond.methodLink RX9 3 objectInit) ∈ gwL := gwt_2 20 (by decide +kernel) rfl
theorem zv_440 : (Cond.classLink RX9 9 RX5) ∈ gwL := gwt_2 21 (by decide +kernel) rfl
theorem zv_405 : (Cond.instantiable RX5 2) ∈ gwL := gwt_1 226 (by decide +kernel) rfl
theorem zv_189 : (Cond.initialized RX5) ∈ gwL := gwt_1 10 (by decide +kernel) rfl
theorem zv_441 : (Cond.methodLinkNest RX9 11 yX5_init RX11) ∈ gwL := gwt_2 22 (by decide +kernel) rfl
theorem zv_407 : (Cond.instanceMethod yX5_init) ∈ gwL := gwt_1 228 (by decide +kernel) rfl
theorem zv_491 : (Cond.fieldLink RX9 12 RX9 "plan" "LGateGroup$Plan;") ∈ gwL := gwt_2 72 (by decide +kernel) rfl
theorem zv_442 : (Cond.classLink RX9 18 RX0) ∈ gwL := gwt_2 23 (by decide +kernel) rfl
theorem zv_443 : (Cond.instantiable RX0 3) ∈ gwL := gwt_2 24 (by decide +kernel) rfl
theorem zv_191 : (Cond.initialized RX0) ∈ gwL := gwt_1 12 (by decide +kernel) rfl
theorem zv_444 : (Cond.methodLinkNest RX9 20 yX0_init RX11) ∈ gwL := gwt_2 25 (by decide +kernel) rfl
theorem zv_445 : (Cond.instanceMethod yX0_init) ∈ gwL := gwt_2 26 (by decide +kernel) rfl
theorem zv_494 : (Cond.fieldLink RX9 21 RX9 "changes" "LGateGroup$Changes;") ∈ gwL := gwt_2 75 (by decide +kernel) rfl
theorem zv_497 : (Cond.fieldLink RX9 25 RX9 "held" "[I") ∈ gwL := gwt_2 78 (by decide +kernel) rfl
theorem zv_501 : (Cond.fieldLink RX9 29 RX9 "gaps" "[I") ∈ gwL := gwt_2 82 (by decide +kernel) rfl
theorem zv_504 : (Cond.fieldLink RX9 32 RX9 "doubled" "[I") ∈ gwL := gwt_2 85 (by decide +kernel) rfl
theorem zv_507 : (Cond.fieldLink RX9 35 RX9 "takes" "[I") ∈ gwL := gwt_2 88 (by decide +kernel) rfl
theorem zv_511 : (Cond.fieldLink RX9 38 RX9 "told" "[I") ∈ gwL := gwt_2 92 (by decide +kernel) rfl
theorem zv_514 : (Cond.fieldLink RX9 41 RX9 "weight" "[I") ∈ gwL := gwt_2 95 (by decide +kernel) rfl
theorem zv_517 : (Cond.fieldLink RX9 44 RX9 "skew" "[I") ∈ gwL := gwt_2 98 (by decide +kernel) rfl
theorem zv_520 : (Cond.fieldLink RX9 47 RX9 "clock" "[I") ∈ gwL := gwt_2 101 (by decide +kernel) rfl
theorem zv_523 : (Cond.fieldLink RX9 50 RX9 "wish" "[I") ∈ gwL := gwt_2 104 (by decide +kernel) rfl
theorem zv_304 : (Cond.methodLink RX1 3 objectInit) ∈ gwL := gwt_1 125 (by decide +kernel) rfl
theorem zv_306 : (Cond.fieldLink RX1 9 RX1 "counts" "[I") ∈ gwL := gwt_1 127 (by decide +kernel) rfl
theorem zv_310 : (Cond.fieldLink RX1 15 RX1 "names" "[I") ∈ gwL := gwt_1 131 (by decide +kernel) rfl
theorem zv_313 : (Cond.fieldLink RX1 18 RX1 "every" "[I") ∈ gwL := gwt_1 134 (by decide +kernel) rfl
theorem zv_317 : (Cond.fieldLink RX1 21 RX1 "delay" "[I") ∈ gwL := gwt_1 138 (by decide +kernel) rfl
theorem zv_321 : (Cond.fieldLink RX1 24 RX1 "keeps" "[I") ∈ gwL := gwt_1 142 (by decide +kernel) rfl
theorem zv_325 : (Cond.fieldLink RX1 27 RX1 "slots" "[I") ∈ gwL := gwt_1 146 (by decide +kernel) rfl
theorem zv_329 : (Cond.fieldLink RX1 30 RX1 "members" "[I") ∈ gwL := gwt_1 150 (by decide +kernel) rfl
theorem zv_334 : (Cond.fieldLink RX1 33 RX1 "words" "[I") ∈ gwL := gwt_1 155 (by decide +kernel) rfl
theorem zv_337 : (Cond.fieldLink RX1 36 RX1 "shares" "[I") ∈ gwL := gwt_1 158 (by decide +kernel) rfl
theorem zv_344 : (Cond.fieldLink RX1 39 RX1 "trackMembe\x72" "[I") ∈ gwL := gwt_1 165 (by decide +kernel) rfl
theorem zv_347 : (Cond.fieldLink RX1 42 RX1 "trackLink" "[I") ∈ gwL := gwt_1 168 (by decide +kernel) rfl
theorem zv_350 : (Cond.fieldLink RX1 45 RX1 "trackLess" "[I") ∈ gwL := gwt_1 171 (by decide +kernel) rfl
theorem zv_572 : (Cond.methodLink RX10 3 objectInit) ∈ gwL := gwt_2 153 (by decide +kernel) rfl
theorem zv_573 : (Cond.fieldLink RX10 9 RX10 "net" "LGateGroup$Net;") ∈ gwL := gwt_2 154 (by decide +kernel) rfl
theorem zv_574 : (Cond.fieldLink RX10 15 RX10 "state" "LGateGroup$State;") ∈ gwL := gwt_2 155 (by decide +kernel) rfl
theorem zv_641 : (Cond.methodLink RX8 3 objectInit) ∈ gwL := gwt_2 222 (by decide +kernel) rfl
theorem zv_644 : (Cond.fieldLink RX8 9 RX8 "owne\x72" "[I") ∈ gwL := gwt_2 225 (by decide +kernel) rfl
theorem zv_645 : (Cond.fieldLink RX8 15 RX8 "got" "[I") ∈ gwL := gwt_2 226 (by decide +kernel) rfl
theorem zv_642 : (Cond.fieldLink RX8 18 RX8 "net" "LGateGroup$Net;") ∈ gwL := gwt_2 223 (by decide +kernel) rfl
theorem zv_643 : (Cond.fieldLink RX8 22 RX8 "now" "LGateGroup$State;") ∈ gwL := gwt_2 224 (by decide +kernel) rfl
theorem zv_387 : (Cond.methodLink RX2 3 objectInit) ∈ gwL := gwt_1 208 (by decide +kernel) rfl
theorem zv_388 : (Cond.classLink RX2 9 RX1) ∈ gwL := gwt_1 209 (by decide +kernel) rfl
theorem zv_300 : (Cond.instantiable RX1 14) ∈ gwL := gwt_1 121 (by decide +kernel) rfl
theorem zv_186 : (Cond.initialized RX1) ∈ gwL := gwt_1 7 (by decide +kernel) rfl
theorem zv_389 : (Cond.methodLinkNest RX2 11 yX1_init RX11) ∈ gwL := gwt_1 210 (by decide +kernel) rfl
theorem zv_302 : (Cond.instanceMethod yX1_init) ∈ gwL := gwt_1 123 (by decide +kernel) rfl
theorem zv_391 : (Cond.fieldLink RX2 12 RX2 "draft" "LGateGroup$Net;") ∈ gwL := gwt_1 212 (by decide +kernel) rfl
theorem zv_390 : (Cond.fieldLink RX2 18 RX2 "reade\x72" "LGateGroup$Reader;") ∈ gwL := gwt_1 211 (by decide +kernel) rfl
theorem zv_403 : (Cond.methodLink RX6 3 objectInit) ∈ gwL := gwt_1 224 (by decide +kernel) rfl
theorem zv_404 : (Cond.classLink RX6 9 RX5) ∈ gwL := gwt_1 225 (by decide +kernel) rfl
theorem zv_406 : (Cond.methodLinkNest RX6 11 yX5_init RX11) ∈ gwL := gwt_1 227 (by decide +kernel) rfl
theorem zv_425 : (Cond.fieldLink RX6 12 RX6 "draft" "LGateGroup$Plan;") ∈ gwL := gwt_2 6 (by decide +kernel) rfl
theorem zv_423 : (Cond.fieldLink RX6 18 RX6 "reade\x72" "LGateGroup$Reader;") ∈ gwL := gwt_2 4 (by decide +kernel) rfl
theorem zv_424 : (Cond.fieldLink RX6 22 RX6 "net" "LGateGroup$Net;") ∈ gwL := gwt_2 5 (by decide +kernel) rfl
theorem zv_621 : (Cond.methodLink RX3 3 objectInit) ∈ gwL := gwt_2 202 (by decide +kernel) rfl
theorem zv_622 : (Cond.classLink RX3 9 RX9) ∈ gwL := gwt_2 203 (by decide +kernel) rfl
theorem zv_435 : (Cond.instantiable RX9 20) ∈ gwL := gwt_2 16 (by decide +kernel) rfl
theorem zv_190 : (Cond.initialized RX9) ∈ gwL := gwt_1 11 (by decide +kernel) rfl
theorem zv_623 : (Cond.methodLinkNest RX3 11 yX9_init RX11) ∈ gwL := gwt_2 204 (by decide +kernel) rfl
theorem zv_437 : (Cond.instanceMethod yX9_init) ∈ gwL := gwt_2 18 (by decide +kernel) rfl
theorem zv_627 : (Cond.fieldLink RX3 12 RX3 "page" "LGateGroup$State;") ∈ gwL := gwt_2 208 (by decide +kernel) rfl
theorem zv_626 : (Cond.fieldLink RX3 18 RX3 "now" "LGateGroup$State;") ∈ gwL := gwt_2 207 (by decide +kernel) rfl
theorem zv_624 : (Cond.classLink RX3 21 RX10) ∈ gwL := gwt_2 205 (by decide +kernel) rfl
theorem zv_568 : (Cond.instantiable RX10 5) ∈ gwL := gwt_2 149 (by decide +kernel) rfl
theorem zv_192 : (Cond.initialized RX10) ∈ gwL := gwt_1 13 (by decide +kernel) rfl
theorem zv_625 : (Cond.methodLinkNest RX3 23 yX10_init RX11) ∈ gwL := gwt_2 206 (by decide +kernel) rfl
theorem zv_570 : (Cond.instanceMethod yX10_init) ∈ gwL := gwt_2 151 (by decide +kernel) rfl
theorem zv_628 : (Cond.fieldLink RX3 26 RX3 "works" "LGateGroup$Works;") ∈ gwL := gwt_2 209 (by decide +kernel) rfl
theorem zv_1361 : (Cond.methodLink RX12 1 objectInit) ∈ gwL := gwt_5 222 (by decide +kernel) rfl
theorem zv_1363 : (Cond.fieldLink RX12 7 RX12 "tape" "[B") ∈ gwL := gwt_5 224 (by decide +kernel) rfl
theorem zv_1371 : (Cond.fieldLink RX12 13 RX12 "faultPlace" "I") ∈ gwL := gwt_5 232 (by decide +kernel) rfl
theorem zv_1375 : (Cond.fieldLink RX12 17 RX12 "o" "[I") ∈ gwL := gwt_5 236 (by decide +kernel) rfl
theorem zv_1376 : (Cond.fieldLink RX12 21 RX12 "\x72" "[I") ∈ gwL := gwt_5 237 (by decide +kernel) rfl
theorem zv_1379 : (Cond.fieldLink RX12 24 RX12 "e" "[I") ∈ gwL := gwt_6 0 (by decide +kernel) rfl
theorem zv_1380 : (Cond.fieldLink RX12 27 RX12 "w" "[I") ∈ gwL := gwt_6 1 (by decide +kernel) rfl
theorem zv_1381 : (Cond.fieldLink RX12 30 RX12 "banks" "[I") ∈ gwL := gwt_6 2 (by decide +kernel) rfl
theorem zv_1383 : (Cond.fieldLink RX12 33 RX12 "isKept" "[Z") ∈ gwL := gwt_6 4 (by decide +kernel) rfl
theorem zv_1385 : (Cond.fieldLink RX12 37 RX12 "sent" "[I") ∈ gwL := gwt_6 6 (by decide +kernel) rfl
theorem zv_1386 : (Cond.fieldLink RX12 40 RX12 "slotOf" "[I") ∈ gwL := gwt_6 7 (by decide +kernel) rfl
theorem zv_1387 : (Cond.fieldLink RX12 43 RX12 "had" "[I") ∈ gwL := gwt_6 8 (by decide +kernel) rfl
theorem zv_408 : (Cond.code yX5_init cX5_init 1 none) ∈ gwL := gwt_1 229 (by decide +kernel) rfl
theorem zv_446 : (Cond.code yX0_init cX0_init 1 none) ∈ gwL := gwt_2 27 (by decide +kernel) rfl
theorem zv_438 : (Cond.code yX9_init cX9_init 1 none) ∈ gwL := gwt_2 19 (by decide +kernel) rfl
theorem zv_303 : (Cond.code yX1_init cX1_init 1 none) ∈ gwL := gwt_1 124 (by decide +kernel) rfl
theorem zv_571 : (Cond.code yX10_init cX10_init 3 none) ∈ gwL := gwt_2 152 (by decide +kernel) rfl
theorem zv_640 : (Cond.code yX8_init cX8_init 3 none) ∈ gwL := gwt_2 221 (by decide +kernel) rfl
theorem zv_195 : (Cond.initialized RX8) ∈ gwL := gwt_1 16 (by decide +kernel) rfl
theorem zv_386 : (Cond.code yX2_init cX2_init 2 none) ∈ gwL := gwt_1 207 (by decide +kernel) rfl
theorem zv_187 : (Cond.initialized RX2) ∈ gwL := gwt_1 8 (by decide +kernel) rfl
theorem zv_402 : (Cond.code yX6_init cX6_init 3 none) ∈ gwL := gwt_1 223 (by decide +kernel) rfl
theorem zv_188 : (Cond.initialized RX6) ∈ gwL := gwt_1 9 (by decide +kernel) rfl
theorem zv_620 : (Cond.code yX3_init cX3_init 3 none) ∈ gwL := gwt_2 201 (by decide +kernel) rfl
theorem zv_194 : (Cond.initialized RX3) ∈ gwL := gwt_1 15 (by decide +kernel) rfl
theorem zv_1360 : (Cond.code yX12_init cX12_init 1 none) ∈ gwL := gwt_5 221 (by decide +kernel) rfl
theorem zv_196 : (Cond.initialized RX12) ∈ gwL := gwt_1 17 (by decide +kernel) rfl
theorem zv_212 : (Cond.code yX7_init cX7_init 5 none) ∈ gwL := gwt_1 33 (by decide +kernel) rfl
theorem zv_181 : (Cond.initialized RX7) ∈ gwL := gwt_1 2 (by decide +kernel) rfl
theorem zv_594 : (Cond.code yX4_init cX4_init 2 none) ∈ gwL := gwt_2 175 (by decide +kernel) rfl
theorem zv_193 : (Cond.initialized RX4) ∈ gwL := gwt_1 14 (by decide +kernel) rfl
theorem zv_204 : (Cond.code yX11_init cX11_init 1 none) ∈ gwL := gwt_1 25 (by decide +kernel) rfl
theorem zv_180 : (Cond.initialized RX11) ∈ gwL := gwt_1 1 (by decide +kernel) rfl
theorem gb_X5 {a : Nat} (h : gk a = (0, 5)) : 32 ≤ a ∧ a < 262 := gk_all (P := fun a => 32 ≤ a ∧ a < 262) (by decide) (by decide +kernel) h
theorem gb_X0 {a : Nat} (h : gk a = (0, 0)) : 32 ≤ a ∧ a < 262 := gk_all (P := fun a => 32 ≤ a ∧ a < 262) (by decide) (by decide +kernel) h
theorem gb_X9 {a : Nat} (h : gk a = (0, 9)) : 34 ≤ a ∧ a < 250 := gk_all (P := fun a => 34 ≤ a ∧ a < 250) (by decide) (by decide +kernel) h
theorem gb_X1 {a : Nat} (h : gk a = (0, 1)) : 4 ≤ a ∧ a < 19 := gk_all (P := fun a => 4 ≤ a ∧ a < 19) (by decide) (by decide +kernel) h
theorem gb_X10 {a : Nat} (h : gk (a + 14) = (0, 10)) : 34 ≤ a ∧ a < 250 := by
  have hl := gk_lt h (by decide)
  have h2 : ∀ b, b < 264 → gk (b + 14) = (0, 10) → 34 ≤ b ∧ b < 250 := by decide +kernel
  exact h2 a (by omega) h
theorem zc_X5_init : gCode yX5_init cX5_init 1 none 0 := ⟨zv_408, zv_189, by decide +kernel, by decide +kernel, by decide +kernel⟩
theorem zc_X0_init : gCode yX0_init cX0_init 1 none 0 := ⟨zv_446, zv_191, by decide +kernel, by decide +kernel, by decide +kernel⟩
theorem zc_X9_init : gCode yX9_init cX9_init 1 none 0 := ⟨zv_438, zv_190, by decide +kernel, by decide +kernel, by decide +kernel⟩
theorem zc_X1_init : gCode yX1_init cX1_init 1 none 0 := ⟨zv_303, zv_186, by decide +kernel, by decide +kernel, by decide +kernel⟩
theorem zc_X10_init : gCode yX10_init cX10_init 3 none 2 := ⟨zv_571, zv_192, by decide +kernel, by decide +kernel, by decide +kernel⟩
theorem zc_X8_init : gCode yX8_init cX8_init 3 none 2 := ⟨zv_640, zv_195, by decide +kernel, by decide +kernel, by decide +kernel⟩
theorem zc_X2_init : gCode yX2_init cX2_init 2 none 1 := ⟨zv_386, zv_187, by decide +kernel, by decide +kernel, by decide +kernel⟩
theorem zc_X6_init : gCode yX6_init cX6_init 3 none 2 := ⟨zv_402, zv_188, by decide +kernel, by decide +kernel, by decide +kernel⟩
theorem zc_X3_init : gCode yX3_init cX3_init 3 none 2 := ⟨zv_620, zv_194, by decide +kernel, by decide +kernel, by decide +kernel⟩
theorem zc_X12_init : gCode yX12_init cX12_init 1 none 0 := ⟨zv_1360, zv_196, by decide +kernel, by decide +kernel, by decide +kernel⟩
theorem zc_X7_init : gCode yX7_init cX7_init 5 none 0 := ⟨zv_212, zv_181, by decide +kernel, by decide +kernel, by decide +kernel⟩
theorem zc_X4_init : gCode yX4_init cX4_init 2 none 0 := ⟨zv_594, zv_193, by decide +kernel, by decide +kernel, by decide +kernel⟩
theorem zc_X11_init : gCode yX11_init cX11_init 1 none 0 := ⟨zv_204, zv_180, by decide +kernel, by decide +kernel, by decide +kernel⟩
