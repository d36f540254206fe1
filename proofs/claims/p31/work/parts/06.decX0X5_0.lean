theorem dX0_copyFrom_0 : decode cX0_copyFrom 0 = .ok (.aload_n 0, 1) := by decide +kernel
theorem dX0_copyFrom_1 : decode cX0_copyFrom 1 = .ok (.aload_n 1, 1) := by decide +kernel
theorem dX0_copyFrom_2 : decode cX0_copyFrom 2 = .ok (.getfield 15, 3) := by decide +kernel
theorem dX0_copyFrom_5 : decode cX0_copyFrom 5 = .ok (.putfield 15, 3) := by decide +kernel
theorem dX0_copyFrom_8 : decode cX0_copyFrom 8 = .ok (.aload_n 0, 1) := by decide +kernel
theorem dX0_copyFrom_9 : decode cX0_copyFrom 9 = .ok (.aload_n 1, 1) := by decide +kernel
theorem dX0_copyFrom_10 : decode cX0_copyFrom 10 = .ok (.getfield 19, 3) := by decide +kernel
theorem dX0_copyFrom_13 : decode cX0_copyFrom 13 = .ok (.putfield 19, 3) := by decide +kernel
theorem dX0_copyFrom_16 : decode cX0_copyFrom 16 = .ok (.aload_n 1, 1) := by decide +kernel
theorem dX0_copyFrom_17 : decode cX0_copyFrom 17 = .ok (.getfield 11, 3) := by decide +kernel
theorem dX0_copyFrom_20 : decode cX0_copyFrom 20 = .ok (.iconst 0, 1) := by decide +kernel
theorem dX0_copyFrom_21 : decode cX0_copyFrom 21 = .ok (.aload_n 0, 1) := by decide +kernel
theorem dX0_copyFrom_22 : decode cX0_copyFrom 22 = .ok (.getfield 11, 3) := by decide +kernel
theorem dX0_copyFrom_25 : decode cX0_copyFrom 25 = .ok (.iconst 0, 1) := by decide +kernel
theorem dX0_copyFrom_26 : decode cX0_copyFrom 26 = .ok (.sipush 240, 3) := by decide +kernel
theorem dX0_copyFrom_29 : decode cX0_copyFrom 29 = .ok (.invokestatic 22, 3) := by decide +kernel
theorem dX0_copyFrom_32 : decode cX0_copyFrom 32 = .ok (.return_, 1) := by decide +kernel
theorem dX0_add_0 : decode cX0_add 0 = .ok (.aload_n 0, 1) := by decide +kernel
theorem dX0_add_1 : decode cX0_add 1 = .ok (.aload_n 0, 1) := by decide +kernel
theorem dX0_add_2 : decode cX0_add 2 = .ok (.getfield 19, 3) := by decide +kernel
theorem dX0_add_5 : decode cX0_add 5 = .ok (.iconst 1, 1) := by decide +kernel
theorem dX0_add_6 : decode cX0_add 6 = .ok (.iadd, 1) := by decide +kernel
theorem dX0_add_7 : decode cX0_add 7 = .ok (.bipush 60, 2) := by decide +kernel
theorem dX0_add_9 : decode cX0_add 9 = .ok (.if_icmp .ge 12, 3) := by decide +kernel
theorem dX0_add_12 : decode cX0_add 12 = .ok (.aload_n 0, 1) := by decide +kernel
theorem dX0_add_13 : decode cX0_add 13 = .ok (.getfield 19, 3) := by decide +kernel
theorem dX0_add_16 : decode cX0_add 16 = .ok (.iconst 1, 1) := by decide +kernel
theorem dX0_add_17 : decode cX0_add 17 = .ok (.iadd, 1) := by decide +kernel
theorem dX0_add_18 : decode cX0_add 18 = .ok (.goto 4, 3) := by decide +kernel
theorem dX0_add_21 : decode cX0_add 21 = .ok (.iconst 0, 1) := by decide +kernel
theorem dX0_add_22 : decode cX0_add 22 = .ok (.putfield 19, 3) := by decide +kernel
theorem dX0_add_25 : decode cX0_add 25 = .ok (.aload_n 0, 1) := by decide +kernel
theorem dX0_add_26 : decode cX0_add 26 = .ok (.aload_n 0, 1) := by decide +kernel
theorem dX0_add_27 : decode cX0_add 27 = .ok (.getfield 15, 3) := by decide +kernel
theorem dX0_add_30 : decode cX0_add 30 = .ok (.bipush 60, 2) := by decide +kernel
theorem dX0_add_32 : decode cX0_add 32 = .ok (.if_icmp .ge 12, 3) := by decide +kernel
theorem dX0_add_35 : decode cX0_add 35 = .ok (.aload_n 0, 1) := by decide +kernel
theorem dX0_add_36 : decode cX0_add 36 = .ok (.getfield 15, 3) := by decide +kernel
theorem dX0_add_39 : decode cX0_add 39 = .ok (.iconst 1, 1) := by decide +kernel
theorem dX0_add_40 : decode cX0_add 40 = .ok (.iadd, 1) := by decide +kernel
theorem dX0_add_41 : decode cX0_add 41 = .ok (.goto 5, 3) := by decide +kernel
theorem dX0_add_44 : decode cX0_add 44 = .ok (.bipush 60, 2) := by decide +kernel
theorem dX0_add_46 : decode cX0_add 46 = .ok (.putfield 15, 3) := by decide +kernel
theorem dX0_add_49 : decode cX0_add 49 = .ok (.aload_n 0, 1) := by decide +kernel
theorem dX0_add_50 : decode cX0_add 50 = .ok (.getfield 19, 3) := by decide +kernel
theorem dX0_add_53 : decode cX0_add 53 = .ok (.iconst 4, 1) := by decide +kernel
theorem dX0_add_54 : decode cX0_add 54 = .ok (.imul, 1) := by decide +kernel
theorem dX0_add_55 : decode cX0_add 55 = .ok (.istore 5, 2) := by decide +kernel
theorem dX0_add_57 : decode cX0_add 57 = .ok (.aload_n 0, 1) := by decide +kernel
theorem dX0_add_58 : decode cX0_add 58 = .ok (.getfield 11, 3) := by decide +kernel
theorem dX0_add_61 : decode cX0_add 61 = .ok (.iload 5, 2) := by decide +kernel
theorem dX0_add_63 : decode cX0_add 63 = .ok (.iload_n 1, 1) := by decide +kernel
theorem dX0_add_64 : decode cX0_add 64 = .ok (.iastore, 1) := by decide +kernel
theorem dX0_add_65 : decode cX0_add 65 = .ok (.aload_n 0, 1) := by decide +kernel
theorem dX0_add_66 : decode cX0_add 66 = .ok (.getfield 11, 3) := by decide +kernel
theorem dX0_add_69 : decode cX0_add 69 = .ok (.iload 5, 2) := by decide +kernel
theorem dX0_add_71 : decode cX0_add 71 = .ok (.iconst 1, 1) := by decide +kernel
theorem dX0_add_72 : decode cX0_add 72 = .ok (.iadd, 1) := by decide +kernel
theorem dX0_add_73 : decode cX0_add 73 = .ok (.iload_n 2, 1) := by decide +kernel
theorem dX0_add_74 : decode cX0_add 74 = .ok (.iastore, 1) := by decide +kernel
theorem dX0_add_75 : decode cX0_add 75 = .ok (.aload_n 0, 1) := by decide +kernel
theorem dX0_add_76 : decode cX0_add 76 = .ok (.getfield 11, 3) := by decide +kernel
theorem dX0_add_79 : decode cX0_add 79 = .ok (.iload 5, 2) := by decide +kernel
theorem dX0_add_81 : decode cX0_add 81 = .ok (.iconst 2, 1) := by decide +kernel
theorem dX0_add_82 : decode cX0_add 82 = .ok (.iadd, 1) := by decide +kernel
theorem dX0_add_83 : decode cX0_add 83 = .ok (.iload_n 3, 1) := by decide +kernel
theorem dX0_add_84 : decode cX0_add 84 = .ok (.iastore, 1) := by decide +kernel
theorem dX0_add_85 : decode cX0_add 85 = .ok (.aload_n 0, 1) := by decide +kernel
theorem dX0_add_86 : decode cX0_add 86 = .ok (.getfield 11, 3) := by decide +kernel
theorem dX0_add_89 : decode cX0_add 89 = .ok (.iload 5, 2) := by decide +kernel
theorem dX0_add_91 : decode cX0_add 91 = .ok (.iconst 3, 1) := by decide +kernel
theorem dX0_add_92 : decode cX0_add 92 = .ok (.iadd, 1) := by decide +kernel
theorem dX0_add_93 : decode cX0_add 93 = .ok (.iload 4, 2) := by decide +kernel
theorem dX0_add_95 : decode cX0_add 95 = .ok (.iastore, 1) := by decide +kernel
theorem dX0_add_96 : decode cX0_add 96 = .ok (.return_, 1) := by decide +kernel
theorem dX0_read_0 : decode cX0_read 0 = .ok (.iload_n 1, 1) := by decide +kernel
theorem dX0_read_1 : decode cX0_read 1 = .ok (.ifCond .lt 20, 3) := by decide +kernel
theorem dX0_read_4 : decode cX0_read 4 = .ok (.iload_n 1, 1) := by decide +kernel
theorem dX0_read_5 : decode cX0_read 5 = .ok (.aload_n 0, 1) := by decide +kernel
theorem dX0_read_6 : decode cX0_read 6 = .ok (.getfield 15, 3) := by decide +kernel
theorem dX0_read_9 : decode cX0_read 9 = .ok (.if_icmp .ge 12, 3) := by decide +kernel
theorem dX0_read_12 : decode cX0_read 12 = .ok (.iload_n 2, 1) := by decide +kernel
theorem dX0_read_13 : decode cX0_read 13 = .ok (.ifCond .lt 8, 3) := by decide +kernel
theorem dX0_read_16 : decode cX0_read 16 = .ok (.iload_n 2, 1) := by decide +kernel
theorem dX0_read_17 : decode cX0_read 17 = .ok (.iconst 4, 1) := by decide +kernel
theorem dX0_read_18 : decode cX0_read 18 = .ok (.if_icmp .lt 5, 3) := by decide +kernel
theorem dX0_read_21 : decode cX0_read 21 = .ok (.iconst (-1), 1) := by decide +kernel
theorem dX0_read_22 : decode cX0_read 22 = .ok (.ireturn, 1) := by decide +kernel
theorem dX0_read_23 : decode cX0_read 23 = .ok (.aload_n 0, 1) := by decide +kernel
theorem dX0_read_24 : decode cX0_read 24 = .ok (.getfield 19, 3) := by decide +kernel
theorem dX0_read_27 : decode cX0_read 27 = .ok (.iload_n 1, 1) := by decide +kernel
theorem dX0_read_28 : decode cX0_read 28 = .ok (.if_icmp .lt 12, 3) := by decide +kernel
theorem dX0_read_31 : decode cX0_read 31 = .ok (.aload_n 0, 1) := by decide +kernel
theorem dX0_read_32 : decode cX0_read 32 = .ok (.getfield 19, 3) := by decide +kernel
theorem dX0_read_35 : decode cX0_read 35 = .ok (.iload_n 1, 1) := by decide +kernel
theorem dX0_read_36 : decode cX0_read 36 = .ok (.isub, 1) := by decide +kernel
theorem dX0_read_37 : decode cX0_read 37 = .ok (.goto 12, 3) := by decide +kernel
theorem dX0_read_40 : decode cX0_read 40 = .ok (.aload_n 0, 1) := by decide +kernel
theorem dX0_read_41 : decode cX0_read 41 = .ok (.getfield 19, 3) := by decide +kernel
theorem dX0_read_44 : decode cX0_read 44 = .ok (.iload_n 1, 1) := by decide +kernel
theorem dX0_read_45 : decode cX0_read 45 = .ok (.isub, 1) := by decide +kernel
theorem dX0_read_46 : decode cX0_read 46 = .ok (.bipush 60, 2) := by decide +kernel
theorem dX0_read_48 : decode cX0_read 48 = .ok (.iadd, 1) := by decide +kernel
theorem dX0_read_49 : decode cX0_read 49 = .ok (.istore_n 3, 1) := by decide +kernel
theorem dX0_read_50 : decode cX0_read 50 = .ok (.aload_n 0, 1) := by decide +kernel
theorem dX0_read_51 : decode cX0_read 51 = .ok (.getfield 11, 3) := by decide +kernel
theorem dX0_read_54 : decode cX0_read 54 = .ok (.iload_n 3, 1) := by decide +kernel
theorem dX0_read_55 : decode cX0_read 55 = .ok (.iconst 4, 1) := by decide +kernel
theorem dX0_read_56 : decode cX0_read 56 = .ok (.imul, 1) := by decide +kernel
theorem dX0_read_57 : decode cX0_read 57 = .ok (.iload_n 2, 1) := by decide +kernel
theorem dX0_read_58 : decode cX0_read 58 = .ok (.iadd, 1) := by decide +kernel
theorem dX0_read_59 : decode cX0_read 59 = .ok (.iaload, 1) := by decide +kernel
theorem dX0_read_60 : decode cX0_read 60 = .ok (.ireturn, 1) := by decide +kernel
theorem dJ6_bitCount_0f7a4_0 : decode cJ6_bitCount_0f7a4 0 = .ok (.iload_n 0, 1) := by decide +kernel
theorem dJ6_bitCount_0f7a4_1 : decode cJ6_bitCount_0f7a4 1 = .ok (.iload_n 0, 1) := by decide +kernel
theorem dJ6_bitCount_0f7a4_2 : decode cJ6_bitCount_0f7a4 2 = .ok (.iconst 1, 1) := by decide +kernel
theorem dJ6_bitCount_0f7a4_3 : decode cJ6_bitCount_0f7a4 3 = .ok (.iushr, 1) := by decide +kernel
theorem dJ6_bitCount_0f7a4_4 : decode cJ6_bitCount_0f7a4 4 = .ok (.ldc_w 265, 3) := by decide +kernel
theorem dJ6_bitCount_0f7a4_7 : decode cJ6_bitCount_0f7a4 7 = .ok (.iand, 1) := by decide +kernel
theorem dJ6_bitCount_0f7a4_8 : decode cJ6_bitCount_0f7a4 8 = .ok (.isub, 1) := by decide +kernel
theorem dJ6_bitCount_0f7a4_9 : decode cJ6_bitCount_0f7a4 9 = .ok (.istore_n 0, 1) := by decide +kernel
theorem dJ6_bitCount_0f7a4_10 : decode cJ6_bitCount_0f7a4 10 = .ok (.iload_n 0, 1) := by decide +kernel
theorem dJ6_bitCount_0f7a4_11 : decode cJ6_bitCount_0f7a4 11 = .ok (.ldc_w 266, 3) := by decide +kernel
theorem dJ6_bitCount_0f7a4_14 : decode cJ6_bitCount_0f7a4 14 = .ok (.iand, 1) := by decide +kernel
theorem dJ6_bitCount_0f7a4_15 : decode cJ6_bitCount_0f7a4 15 = .ok (.iload_n 0, 1) := by decide +kernel
theorem dJ6_bitCount_0f7a4_16 : decode cJ6_bitCount_0f7a4 16 = .ok (.iconst 2, 1) := by decide +kernel
theorem dJ6_bitCount_0f7a4_17 : decode cJ6_bitCount_0f7a4 17 = .ok (.iushr, 1) := by decide +kernel
theorem dJ6_bitCount_0f7a4_18 : decode cJ6_bitCount_0f7a4 18 = .ok (.ldc_w 266, 3) := by decide +kernel
theorem dJ6_bitCount_0f7a4_21 : decode cJ6_bitCount_0f7a4 21 = .ok (.iand, 1) := by decide +kernel
theorem dJ6_bitCount_0f7a4_22 : decode cJ6_bitCount_0f7a4 22 = .ok (.iadd, 1) := by decide +kernel
theorem dJ6_bitCount_0f7a4_23 : decode cJ6_bitCount_0f7a4 23 = .ok (.istore_n 0, 1) := by decide +kernel
theorem dJ6_bitCount_0f7a4_24 : decode cJ6_bitCount_0f7a4 24 = .ok (.iload_n 0, 1) := by decide +kernel
theorem dJ6_bitCount_0f7a4_25 : decode cJ6_bitCount_0f7a4 25 = .ok (.iload_n 0, 1) := by decide +kernel
theorem dJ6_bitCount_0f7a4_26 : decode cJ6_bitCount_0f7a4 26 = .ok (.iconst 4, 1) := by decide +kernel
theorem dJ6_bitCount_0f7a4_27 : decode cJ6_bitCount_0f7a4 27 = .ok (.iushr, 1) := by decide +kernel
theorem dJ6_bitCount_0f7a4_28 : decode cJ6_bitCount_0f7a4 28 = .ok (.iadd, 1) := by decide +kernel
theorem dJ6_bitCount_0f7a4_29 : decode cJ6_bitCount_0f7a4 29 = .ok (.ldc_w 267, 3) := by decide +kernel
theorem dJ6_bitCount_0f7a4_32 : decode cJ6_bitCount_0f7a4 32 = .ok (.iand, 1) := by decide +kernel
theorem dJ6_bitCount_0f7a4_33 : decode cJ6_bitCount_0f7a4 33 = .ok (.istore_n 0, 1) := by decide +kernel
theorem dJ6_bitCount_0f7a4_34 : decode cJ6_bitCount_0f7a4 34 = .ok (.iload_n 0, 1) := by decide +kernel
theorem dJ6_bitCount_0f7a4_35 : decode cJ6_bitCount_0f7a4 35 = .ok (.iload_n 0, 1) := by decide +kernel
theorem dJ6_bitCount_0f7a4_36 : decode cJ6_bitCount_0f7a4 36 = .ok (.bipush 8, 2) := by decide +kernel
theorem dJ6_bitCount_0f7a4_38 : decode cJ6_bitCount_0f7a4 38 = .ok (.iushr, 1) := by decide +kernel
theorem dJ6_bitCount_0f7a4_39 : decode cJ6_bitCount_0f7a4 39 = .ok (.iadd, 1) := by decide +kernel
theorem dJ6_bitCount_0f7a4_40 : decode cJ6_bitCount_0f7a4 40 = .ok (.istore_n 0, 1) := by decide +kernel
theorem dJ6_bitCount_0f7a4_41 : decode cJ6_bitCount_0f7a4 41 = .ok (.iload_n 0, 1) := by decide +kernel
theorem dJ6_bitCount_0f7a4_42 : decode cJ6_bitCount_0f7a4 42 = .ok (.iload_n 0, 1) := by decide +kernel
theorem dJ6_bitCount_0f7a4_43 : decode cJ6_bitCount_0f7a4 43 = .ok (.bipush 16, 2) := by decide +kernel
theorem dJ6_bitCount_0f7a4_45 : decode cJ6_bitCount_0f7a4 45 = .ok (.iushr, 1) := by decide +kernel
theorem dJ6_bitCount_0f7a4_46 : decode cJ6_bitCount_0f7a4 46 = .ok (.iadd, 1) := by decide +kernel
theorem dJ6_bitCount_0f7a4_47 : decode cJ6_bitCount_0f7a4 47 = .ok (.istore_n 0, 1) := by decide +kernel
theorem dJ6_bitCount_0f7a4_48 : decode cJ6_bitCount_0f7a4 48 = .ok (.iload_n 0, 1) := by decide +kernel
theorem dJ6_bitCount_0f7a4_49 : decode cJ6_bitCount_0f7a4 49 = .ok (.bipush 63, 2) := by decide +kernel
theorem dJ6_bitCount_0f7a4_51 : decode cJ6_bitCount_0f7a4 51 = .ok (.iand, 1) := by decide +kernel
theorem dJ6_bitCount_0f7a4_52 : decode cJ6_bitCount_0f7a4 52 = .ok (.ireturn, 1) := by decide +kernel
theorem dX5_copyFrom_0 : decode cX5_copyFrom 0 = .ok (.aload_n 0, 1) := by decide +kernel
theorem dX5_copyFrom_1 : decode cX5_copyFrom 1 = .ok (.aload_n 1, 1) := by decide +kernel
theorem dX5_copyFrom_2 : decode cX5_copyFrom 2 = .ok (.getfield 15, 3) := by decide +kernel
theorem dX5_copyFrom_5 : decode cX5_copyFrom 5 = .ok (.putfield 15, 3) := by decide +kernel
theorem dX5_copyFrom_8 : decode cX5_copyFrom 8 = .ok (.aload_n 1, 1) := by decide +kernel
theorem dX5_copyFrom_9 : decode cX5_copyFrom 9 = .ok (.getfield 11, 3) := by decide +kernel
theorem dX5_copyFrom_12 : decode cX5_copyFrom 12 = .ok (.iconst 0, 1) := by decide +kernel
theorem dX5_copyFrom_13 : decode cX5_copyFrom 13 = .ok (.aload_n 0, 1) := by decide +kernel
theorem dX5_copyFrom_14 : decode cX5_copyFrom 14 = .ok (.getfield 11, 3) := by decide +kernel
theorem dX5_copyFrom_17 : decode cX5_copyFrom 17 = .ok (.iconst 0, 1) := by decide +kernel
theorem dX5_copyFrom_18 : decode cX5_copyFrom 18 = .ok (.bipush 100, 2) := by decide +kernel
theorem dX5_copyFrom_20 : decode cX5_copyFrom 20 = .ok (.invokestatic 19, 3) := by decide +kernel
theorem dX5_copyFrom_23 : decode cX5_copyFrom 23 = .ok (.return_, 1) := by decide +kernel
theorem dX5_at_0 : decode cX5_at 0 = .ok (.aload_n 0, 1) := by decide +kernel
theorem dX5_at_1 : decode cX5_at 1 = .ok (.getfield 11, 3) := by decide +kernel
theorem dX5_at_4 : decode cX5_at 4 = .ok (.iload_n 1, 1) := by decide +kernel
theorem dX5_at_5 : decode cX5_at 5 = .ok (.iconst 5, 1) := by decide +kernel
theorem dX5_at_6 : decode cX5_at 6 = .ok (.imul, 1) := by decide +kernel
theorem dX5_at_7 : decode cX5_at 7 = .ok (.iaload, 1) := by decide +kernel
theorem dX5_at_8 : decode cX5_at 8 = .ok (.ireturn, 1) := by decide +kernel
theorem dX5_add_0 : decode cX5_add 0 = .ok (.aload_n 0, 1) := by decide +kernel
theorem dX5_add_1 : decode cX5_add 1 = .ok (.getfield 15, 3) := by decide +kernel
theorem dX5_add_4 : decode cX5_add 4 = .ok (.bipush 20, 2) := by decide +kernel
theorem dX5_add_6 : decode cX5_add 6 = .ok (.if_icmp .lt 4, 3) := by decide +kernel
theorem dX5_add_9 : decode cX5_add 9 = .ok (.return_, 1) := by decide +kernel
theorem dX5_add_10 : decode cX5_add 10 = .ok (.aload_n 0, 1) := by decide +kernel
theorem dX5_add_11 : decode cX5_add 11 = .ok (.getfield 15, 3) := by decide +kernel
theorem dX5_add_14 : decode cX5_add 14 = .ok (.iconst 5, 1) := by decide +kernel
theorem dX5_add_15 : decode cX5_add 15 = .ok (.imul, 1) := by decide +kernel
theorem dX5_add_16 : decode cX5_add 16 = .ok (.istore 6, 2) := by decide +kernel
theorem dX5_add_18 : decode cX5_add 18 = .ok (.aload_n 0, 1) := by decide +kernel
theorem dX5_add_19 : decode cX5_add 19 = .ok (.getfield 11, 3) := by decide +kernel
theorem dX5_add_22 : decode cX5_add 22 = .ok (.iload 6, 2) := by decide +kernel
theorem dX5_add_24 : decode cX5_add 24 = .ok (.iload_n 1, 1) := by decide +kernel
theorem dX5_add_25 : decode cX5_add 25 = .ok (.iastore, 1) := by decide +kernel
theorem dX5_add_26 : decode cX5_add 26 = .ok (.aload_n 0, 1) := by decide +kernel
theorem dX5_add_27 : decode cX5_add 27 = .ok (.getfield 11, 3) := by decide +kernel
theorem dX5_add_30 : decode cX5_add 30 = .ok (.iload 6, 2) := by decide +kernel
theorem dX5_add_32 : decode cX5_add 32 = .ok (.iconst 1, 1) := by decide +kernel
theorem dX5_add_33 : decode cX5_add 33 = .ok (.iadd, 1) := by decide +kernel
theorem dX5_add_34 : decode cX5_add 34 = .ok (.iload_n 2, 1) := by decide +kernel
theorem dX5_add_35 : decode cX5_add 35 = .ok (.iastore, 1) := by decide +kernel
theorem dX5_add_36 : decode cX5_add 36 = .ok (.aload_n 0, 1) := by decide +kernel
theorem dX5_add_37 : decode cX5_add 37 = .ok (.getfield 11, 3) := by decide +kernel
theorem dX5_add_40 : decode cX5_add 40 = .ok (.iload 6, 2) := by decide +kernel
theorem dX5_add_42 : decode cX5_add 42 = .ok (.iconst 2, 1) := by decide +kernel
theorem dX5_add_43 : decode cX5_add 43 = .ok (.iadd, 1) := by decide +kernel
theorem dX5_add_44 : decode cX5_add 44 = .ok (.iload_n 3, 1) := by decide +kernel
theorem dX5_add_45 : decode cX5_add 45 = .ok (.iastore, 1) := by decide +kernel
theorem dX5_add_46 : decode cX5_add 46 = .ok (.aload_n 0, 1) := by decide +kernel
theorem dX5_add_47 : decode cX5_add 47 = .ok (.getfield 11, 3) := by decide +kernel
theorem dX5_add_50 : decode cX5_add 50 = .ok (.iload 6, 2) := by decide +kernel
theorem dX5_add_52 : decode cX5_add 52 = .ok (.iconst 3, 1) := by decide +kernel
theorem dX5_add_53 : decode cX5_add 53 = .ok (.iadd, 1) := by decide +kernel
theorem dX5_add_54 : decode cX5_add 54 = .ok (.iload 4, 2) := by decide +kernel
theorem dX5_add_56 : decode cX5_add 56 = .ok (.iastore, 1) := by decide +kernel
theorem dX5_add_57 : decode cX5_add 57 = .ok (.aload_n 0, 1) := by decide +kernel
theorem dX5_add_58 : decode cX5_add 58 = .ok (.getfield 11, 3) := by decide +kernel
theorem dX5_add_61 : decode cX5_add 61 = .ok (.iload 6, 2) := by decide +kernel
theorem dX5_add_63 : decode cX5_add 63 = .ok (.iconst 4, 1) := by decide +kernel
theorem dX5_add_64 : decode cX5_add 64 = .ok (.iadd, 1) := by decide +kernel
theorem dX5_add_65 : decode cX5_add 65 = .ok (.iload 5, 2) := by decide +kernel
theorem dX5_add_67 : decode cX5_add 67 = .ok (.iastore, 1) := by decide +kernel
theorem dX5_add_68 : decode cX5_add 68 = .ok (.aload_n 0, 1) := by decide +kernel
theorem dX5_add_69 : decode cX5_add 69 = .ok (.dup, 1) := by decide +kernel
theorem dX5_add_70 : decode cX5_add 70 = .ok (.getfield 15, 3) := by decide +kernel
theorem dX5_add_73 : decode cX5_add 73 = .ok (.iconst 1, 1) := by decide +kernel
theorem dX5_add_74 : decode cX5_add 74 = .ok (.iadd, 1) := by decide +kernel
theorem dX5_add_75 : decode cX5_add 75 = .ok (.putfield 15, 3) := by decide +kernel
theorem dX5_add_78 : decode cX5_add 78 = .ok (.return_, 1) := by decide +kernel
theorem dX5_firstFrom_0 : decode cX5_firstFrom 0 = .ok (.iconst 0, 1) := by decide +kernel
theorem dX5_firstFrom_1 : decode cX5_firstFrom 1 = .ok (.istore_n 2, 1) := by decide +kernel
theorem dX5_firstFrom_2 : decode cX5_firstFrom 2 = .ok (.iload_n 2, 1) := by decide +kernel
theorem dX5_firstFrom_3 : decode cX5_firstFrom 3 = .ok (.aload_n 0, 1) := by decide +kernel
theorem dX5_firstFrom_4 : decode cX5_firstFrom 4 = .ok (.getfield 15, 3) := by decide +kernel
theorem dX5_firstFrom_7 : decode cX5_firstFrom 7 = .ok (.if_icmp .ge 18, 3) := by decide +kernel
theorem dX5_firstFrom_10 : decode cX5_firstFrom 10 = .ok (.aload_n 0, 1) := by decide +kernel
theorem dX5_firstFrom_11 : decode cX5_firstFrom 11 = .ok (.iload_n 2, 1) := by decide +kernel
theorem dX5_firstFrom_12 : decode cX5_firstFrom 12 = .ok (.invokevirtual 25, 3) := by decide +kernel
theorem dX5_firstFrom_15 : decode cX5_firstFrom 15 = .ok (.iload_n 1, 1) := by decide +kernel
theorem dX5_firstFrom_16 : decode cX5_firstFrom 16 = .ok (.if_icmp .ge 9, 3) := by decide +kernel
theorem dX5_firstFrom_19 : decode cX5_firstFrom 19 = .ok (.iinc 2 1, 3) := by decide +kernel
theorem dX5_firstFrom_22 : decode cX5_firstFrom 22 = .ok (.goto (-20), 3) := by decide +kernel
theorem dX5_firstFrom_25 : decode cX5_firstFrom 25 = .ok (.iload_n 2, 1) := by decide +kernel
theorem dX5_firstFrom_26 : decode cX5_firstFrom 26 = .ok (.ireturn, 1) := by decide +kernel
