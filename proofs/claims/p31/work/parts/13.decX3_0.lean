theorem dX3_openAll_0 : decode cX3_openAll 0 = .ok (.aload_n 0, 1) := by decide +kernel
theorem dX3_openAll_1 : decode cX3_openAll 1 = .ok (.getfield 12, 3) := by decide +kernel
theorem dX3_openAll_4 : decode cX3_openAll 4 = .ok (.aload_n 0, 1) := by decide +kernel
theorem dX3_openAll_5 : decode cX3_openAll 5 = .ok (.getfield 18, 3) := by decide +kernel
theorem dX3_openAll_8 : decode cX3_openAll 8 = .ok (.invokevirtual 30, 3) := by decide +kernel
theorem dX3_openAll_11 : decode cX3_openAll 11 = .ok (.aload_n 0, 1) := by decide +kernel
theorem dX3_openAll_12 : decode cX3_openAll 12 = .ok (.getfield 26, 3) := by decide +kernel
theorem dX3_openAll_15 : decode cX3_openAll 15 = .ok (.invokevirtual 34, 3) := by decide +kernel
theorem dX3_openAll_18 : decode cX3_openAll 18 = .ok (.return_, 1) := by decide +kernel
theorem dX3_open_0 : decode cX3_open 0 = .ok (.aload_n 0, 1) := by decide +kernel
theorem dX3_open_1 : decode cX3_open 1 = .ok (.getfield 12, 3) := by decide +kernel
theorem dX3_open_4 : decode cX3_open 4 = .ok (.aload_n 0, 1) := by decide +kernel
theorem dX3_open_5 : decode cX3_open 5 = .ok (.getfield 18, 3) := by decide +kernel
theorem dX3_open_8 : decode cX3_open 8 = .ok (.invokevirtual 30, 3) := by decide +kernel
theorem dX3_open_11 : decode cX3_open 11 = .ok (.aload_n 0, 1) := by decide +kernel
theorem dX3_open_12 : decode cX3_open 12 = .ok (.getfield 18, 3) := by decide +kernel
theorem dX3_open_15 : decode cX3_open 15 = .ok (.getfield 37, 3) := by decide +kernel
theorem dX3_open_18 : decode cX3_open 18 = .ok (.ifCond .ne 14, 3) := by decide +kernel
theorem dX3_open_21 : decode cX3_open 21 = .ok (.aload_n 0, 1) := by decide +kernel
theorem dX3_open_22 : decode cX3_open 22 = .ok (.getfield 26, 3) := by decide +kernel
theorem dX3_open_25 : decode cX3_open 25 = .ok (.iload_n 1, 1) := by decide +kernel
theorem dX3_open_26 : decode cX3_open 26 = .ok (.invokevirtual 41, 3) := by decide +kernel
theorem dX3_open_29 : decode cX3_open 29 = .ok (.goto 10, 3) := by decide +kernel
theorem dX3_open_32 : decode cX3_open 32 = .ok (.aload_n 0, 1) := by decide +kernel
theorem dX3_open_33 : decode cX3_open 33 = .ok (.getfield 26, 3) := by decide +kernel
theorem dX3_open_36 : decode cX3_open 36 = .ok (.invokevirtual 34, 3) := by decide +kernel
theorem dX3_open_39 : decode cX3_open 39 = .ok (.return_, 1) := by decide +kernel
theorem dX3_heldIn_0 : decode cX3_heldIn 0 = .ok (.aload_n 0, 1) := by decide +kernel
theorem dX3_heldIn_1 : decode cX3_heldIn 1 = .ok (.iload_n 1, 1) := by decide +kernel
theorem dX3_heldIn_2 : decode cX3_heldIn 2 = .ok (.invokevirtual 45, 3) := by decide +kernel
theorem dX3_heldIn_5 : decode cX3_heldIn 5 = .ok (.aload_n 0, 1) := by decide +kernel
theorem dX3_heldIn_6 : decode cX3_heldIn 6 = .ok (.getfield 26, 3) := by decide +kernel
theorem dX3_heldIn_9 : decode cX3_heldIn 9 = .ok (.iload_n 2, 1) := by decide +kernel
theorem dX3_heldIn_10 : decode cX3_heldIn 10 = .ok (.invokevirtual 48, 3) := by decide +kernel
theorem dX3_heldIn_13 : decode cX3_heldIn 13 = .ok (.aload_n 0, 1) := by decide +kernel
theorem dX3_heldIn_14 : decode cX3_heldIn 14 = .ok (.getfield 12, 3) := by decide +kernel
theorem dX3_heldIn_17 : decode cX3_heldIn 17 = .ok (.getfield 51, 3) := by decide +kernel
theorem dX3_heldIn_20 : decode cX3_heldIn 20 = .ok (.iload_n 1, 1) := by decide +kernel
theorem dX3_heldIn_21 : decode cX3_heldIn 21 = .ok (.iaload, 1) := by decide +kernel
theorem dX3_heldIn_22 : decode cX3_heldIn 22 = .ok (.ireturn, 1) := by decide +kernel
theorem dX3_mostTicks_0 : decode cX3_mostTicks 0 = .ok (.sipush 500, 3) := by decide +kernel
theorem dX3_mostTicks_3 : decode cX3_mostTicks 3 = .ok (.sipush 9999, 3) := by decide +kernel
theorem dX3_mostTicks_6 : decode cX3_mostTicks 6 = .ok (.aload_n 0, 1) := by decide +kernel
theorem dX3_mostTicks_7 : decode cX3_mostTicks 7 = .ok (.getfield 18, 3) := by decide +kernel
theorem dX3_mostTicks_10 : decode cX3_mostTicks 10 = .ok (.getfield 82, 3) := by decide +kernel
theorem dX3_mostTicks_13 : decode cX3_mostTicks 13 = .ok (.isub, 1) := by decide +kernel
theorem dX3_mostTicks_14 : decode cX3_mostTicks 14 = .ok (.invokestatic 85, 3) := by decide +kernel
theorem dX3_mostTicks_17 : decode cX3_mostTicks 17 = .ok (.ireturn, 1) := by decide +kernel
theorem dX3_otherHolder_0 : decode cX3_otherHolder 0 = .ok (.aload_n 0, 1) := by decide +kernel
theorem dX3_otherHolder_1 : decode cX3_otherHolder 1 = .ok (.getfield 12, 3) := by decide +kernel
theorem dX3_otherHolder_4 : decode cX3_otherHolder 4 = .ok (.iload_n 1, 1) := by decide +kernel
theorem dX3_otherHolder_5 : decode cX3_otherHolder 5 = .ok (.aload_n 0, 1) := by decide +kernel
theorem dX3_otherHolder_6 : decode cX3_otherHolder 6 = .ok (.getfield 12, 3) := by decide +kernel
theorem dX3_otherHolder_9 : decode cX3_otherHolder 9 = .ok (.getfield 51, 3) := by decide +kernel
theorem dX3_otherHolder_12 : decode cX3_otherHolder 12 = .ok (.iload_n 1, 1) := by decide +kernel
theorem dX3_otherHolder_13 : decode cX3_otherHolder 13 = .ok (.iaload, 1) := by decide +kernel
theorem dX3_otherHolder_14 : decode cX3_otherHolder 14 = .ok (.aload_n 0, 1) := by decide +kernel
theorem dX3_otherHolder_15 : decode cX3_otherHolder 15 = .ok (.getfield 12, 3) := by decide +kernel
theorem dX3_otherHolder_18 : decode cX3_otherHolder 18 = .ok (.iload_n 2, 1) := by decide +kernel
theorem dX3_otherHolder_19 : decode cX3_otherHolder 19 = .ok (.invokevirtual 76, 3) := by decide +kernel
theorem dX3_otherHolder_22 : decode cX3_otherHolder 22 = .ok (.iand, 1) := by decide +kernel
theorem dX3_otherHolder_23 : decode cX3_otherHolder 23 = .ok (.iconst 1, 1) := by decide +kernel
theorem dX3_otherHolder_24 : decode cX3_otherHolder 24 = .ok (.iload_n 2, 1) := by decide +kernel
theorem dX3_otherHolder_25 : decode cX3_otherHolder 25 = .ok (.ishl, 1) := by decide +kernel
theorem dX3_otherHolder_26 : decode cX3_otherHolder 26 = .ok (.iconst (-1), 1) := by decide +kernel
theorem dX3_otherHolder_27 : decode cX3_otherHolder 27 = .ok (.ixor, 1) := by decide +kernel
theorem dX3_otherHolder_28 : decode cX3_otherHolder 28 = .ok (.iand, 1) := by decide +kernel
theorem dX3_otherHolder_29 : decode cX3_otherHolder 29 = .ok (.invokevirtual 79, 3) := by decide +kernel
theorem dX3_otherHolder_32 : decode cX3_otherHolder 32 = .ok (.ireturn, 1) := by decide +kernel
theorem dX3_takenBehind_0 : decode cX3_takenBehind 0 = .ok (.aload_n 0, 1) := by decide +kernel
theorem dX3_takenBehind_1 : decode cX3_takenBehind 1 = .ok (.iload_n 1, 1) := by decide +kernel
theorem dX3_takenBehind_2 : decode cX3_takenBehind 2 = .ok (.invokevirtual 45, 3) := by decide +kernel
theorem dX3_takenBehind_5 : decode cX3_takenBehind 5 = .ok (.aload_n 0, 1) := by decide +kernel
theorem dX3_takenBehind_6 : decode cX3_takenBehind 6 = .ok (.getfield 26, 3) := by decide +kernel
theorem dX3_takenBehind_9 : decode cX3_takenBehind 9 = .ok (.iload_n 2, 1) := by decide +kernel
theorem dX3_takenBehind_10 : decode cX3_takenBehind 10 = .ok (.iconst 0, 1) := by decide +kernel
theorem dX3_takenBehind_11 : decode cX3_takenBehind 11 = .ok (.invokevirtual 55, 3) := by decide +kernel
theorem dX3_takenBehind_14 : decode cX3_takenBehind 14 = .ok (.pop, 1) := by decide +kernel
theorem dX3_takenBehind_15 : decode cX3_takenBehind 15 = .ok (.aload_n 0, 1) := by decide +kernel
theorem dX3_takenBehind_16 : decode cX3_takenBehind 16 = .ok (.invokevirtual 59, 3) := by decide +kernel
theorem dX3_takenBehind_19 : decode cX3_takenBehind 19 = .ok (.istore_n 3, 1) := by decide +kernel
theorem dX3_takenBehind_20 : decode cX3_takenBehind 20 = .ok (.iconst 0, 1) := by decide +kernel
theorem dX3_takenBehind_21 : decode cX3_takenBehind 21 = .ok (.istore 4, 2) := by decide +kernel
theorem dX3_takenBehind_23 : decode cX3_takenBehind 23 = .ok (.iload 4, 2) := by decide +kernel
theorem dX3_takenBehind_25 : decode cX3_takenBehind 25 = .ok (.iload_n 3, 1) := by decide +kernel
theorem dX3_takenBehind_26 : decode cX3_takenBehind 26 = .ok (.if_icmp .ge 36, 3) := by decide +kernel
theorem dX3_takenBehind_29 : decode cX3_takenBehind 29 = .ok (.aload_n 0, 1) := by decide +kernel
theorem dX3_takenBehind_30 : decode cX3_takenBehind 30 = .ok (.iload_n 1, 1) := by decide +kernel
theorem dX3_takenBehind_31 : decode cX3_takenBehind 31 = .ok (.iload_n 2, 1) := by decide +kernel
theorem dX3_takenBehind_32 : decode cX3_takenBehind 32 = .ok (.invokevirtual 63, 3) := by decide +kernel
theorem dX3_takenBehind_35 : decode cX3_takenBehind 35 = .ok (.iconst (-1), 1) := by decide +kernel
theorem dX3_takenBehind_36 : decode cX3_takenBehind 36 = .ok (.if_icmp .ne 26, 3) := by decide +kernel
theorem dX3_takenBehind_39 : decode cX3_takenBehind 39 = .ok (.iload 4, 2) := by decide +kernel
theorem dX3_takenBehind_41 : decode cX3_takenBehind 41 = .ok (.aload_n 0, 1) := by decide +kernel
theorem dX3_takenBehind_42 : decode cX3_takenBehind 42 = .ok (.getfield 26, 3) := by decide +kernel
theorem dX3_takenBehind_45 : decode cX3_takenBehind 45 = .ok (.iload_n 3, 1) := by decide +kernel
theorem dX3_takenBehind_46 : decode cX3_takenBehind 46 = .ok (.iload 4, 2) := by decide +kernel
theorem dX3_takenBehind_48 : decode cX3_takenBehind 48 = .ok (.isub, 1) := by decide +kernel
theorem dX3_takenBehind_49 : decode cX3_takenBehind 49 = .ok (.invokevirtual 67, 3) := by decide +kernel
theorem dX3_takenBehind_52 : decode cX3_takenBehind 52 = .ok (.iconst 1, 1) := by decide +kernel
theorem dX3_takenBehind_53 : decode cX3_takenBehind 53 = .ok (.invokestatic 71, 3) := by decide +kernel
theorem dX3_takenBehind_56 : decode cX3_takenBehind 56 = .ok (.iadd, 1) := by decide +kernel
theorem dX3_takenBehind_57 : decode cX3_takenBehind 57 = .ok (.istore 4, 2) := by decide +kernel
theorem dX3_takenBehind_59 : decode cX3_takenBehind 59 = .ok (.goto (-36), 3) := by decide +kernel
theorem dX3_takenBehind_62 : decode cX3_takenBehind 62 = .ok (.aload_n 0, 1) := by decide +kernel
theorem dX3_takenBehind_63 : decode cX3_takenBehind 63 = .ok (.iload_n 1, 1) := by decide +kernel
theorem dX3_takenBehind_64 : decode cX3_takenBehind 64 = .ok (.iload_n 2, 1) := by decide +kernel
theorem dX3_takenBehind_65 : decode cX3_takenBehind 65 = .ok (.invokevirtual 63, 3) := by decide +kernel
theorem dX3_takenBehind_68 : decode cX3_takenBehind 68 = .ok (.iconst (-1), 1) := by decide +kernel
theorem dX3_takenBehind_69 : decode cX3_takenBehind 69 = .ok (.if_icmp .ne 7, 3) := by decide +kernel
theorem dX3_takenBehind_72 : decode cX3_takenBehind 72 = .ok (.iconst (-1), 1) := by decide +kernel
theorem dX3_takenBehind_73 : decode cX3_takenBehind 73 = .ok (.goto 5, 3) := by decide +kernel
theorem dX3_takenBehind_76 : decode cX3_takenBehind 76 = .ok (.iload 4, 2) := by decide +kernel
theorem dX3_takenBehind_78 : decode cX3_takenBehind 78 = .ok (.ireturn, 1) := by decide +kernel
theorem dX3_calmFrom_0 : decode cX3_calmFrom 0 = .ok (.aload_n 0, 1) := by decide +kernel
theorem dX3_calmFrom_1 : decode cX3_calmFrom 1 = .ok (.invokevirtual 88, 3) := by decide +kernel
theorem dX3_calmFrom_4 : decode cX3_calmFrom 4 = .ok (.iconst 0, 1) := by decide +kernel
theorem dX3_calmFrom_5 : decode cX3_calmFrom 5 = .ok (.istore_n 1, 1) := by decide +kernel
theorem dX3_calmFrom_6 : decode cX3_calmFrom 6 = .ok (.iconst 0, 1) := by decide +kernel
theorem dX3_calmFrom_7 : decode cX3_calmFrom 7 = .ok (.istore_n 2, 1) := by decide +kernel
theorem dX3_calmFrom_8 : decode cX3_calmFrom 8 = .ok (.iload_n 2, 1) := by decide +kernel
theorem dX3_calmFrom_9 : decode cX3_calmFrom 9 = .ok (.sipush 600, 3) := by decide +kernel
theorem dX3_calmFrom_12 : decode cX3_calmFrom 12 = .ok (.if_icmp .ge 65, 3) := by decide +kernel
theorem dX3_calmFrom_15 : decode cX3_calmFrom 15 = .ok (.iload_n 1, 1) := by decide +kernel
theorem dX3_calmFrom_16 : decode cX3_calmFrom 16 = .ok (.sipush 500, 3) := by decide +kernel
theorem dX3_calmFrom_19 : decode cX3_calmFrom 19 = .ok (.if_icmp .gt 58, 3) := by decide +kernel
theorem dX3_calmFrom_22 : decode cX3_calmFrom 22 = .ok (.iload_n 2, 1) := by decide +kernel
theorem dX3_calmFrom_23 : decode cX3_calmFrom 23 = .ok (.iload_n 1, 1) := by decide +kernel
theorem dX3_calmFrom_24 : decode cX3_calmFrom 24 = .ok (.isub, 1) := by decide +kernel
theorem dX3_calmFrom_25 : decode cX3_calmFrom 25 = .ok (.bipush 100, 2) := by decide +kernel
theorem dX3_calmFrom_27 : decode cX3_calmFrom 27 = .ok (.if_icmp .ge 50, 3) := by decide +kernel
theorem dX3_calmFrom_30 : decode cX3_calmFrom 30 = .ok (.aload_n 0, 1) := by decide +kernel
theorem dX3_calmFrom_31 : decode cX3_calmFrom 31 = .ok (.getfield 26, 3) := by decide +kernel
theorem dX3_calmFrom_34 : decode cX3_calmFrom 34 = .ok (.getfield 91, 3) := by decide +kernel
theorem dX3_calmFrom_37 : decode cX3_calmFrom 37 = .ok (.istore_n 3, 1) := by decide +kernel
theorem dX3_calmFrom_38 : decode cX3_calmFrom 38 = .ok (.iload_n 2, 1) := by decide +kernel
theorem dX3_calmFrom_39 : decode cX3_calmFrom 39 = .ok (.aload_n 0, 1) := by decide +kernel
theorem dX3_calmFrom_40 : decode cX3_calmFrom 40 = .ok (.getfield 26, 3) := by decide +kernel
theorem dX3_calmFrom_43 : decode cX3_calmFrom 43 = .ok (.sipush 600, 3) := by decide +kernel
theorem dX3_calmFrom_46 : decode cX3_calmFrom 46 = .ok (.iload_n 2, 1) := by decide +kernel
theorem dX3_calmFrom_47 : decode cX3_calmFrom 47 = .ok (.isub, 1) := by decide +kernel
theorem dX3_calmFrom_48 : decode cX3_calmFrom 48 = .ok (.invokevirtual 67, 3) := by decide +kernel
theorem dX3_calmFrom_51 : decode cX3_calmFrom 51 = .ok (.iconst 1, 1) := by decide +kernel
theorem dX3_calmFrom_52 : decode cX3_calmFrom 52 = .ok (.invokestatic 71, 3) := by decide +kernel
theorem dX3_calmFrom_55 : decode cX3_calmFrom 55 = .ok (.iadd, 1) := by decide +kernel
theorem dX3_calmFrom_56 : decode cX3_calmFrom 56 = .ok (.istore_n 2, 1) := by decide +kernel
theorem dX3_calmFrom_57 : decode cX3_calmFrom 57 = .ok (.aload_n 0, 1) := by decide +kernel
theorem dX3_calmFrom_58 : decode cX3_calmFrom 58 = .ok (.getfield 26, 3) := by decide +kernel
theorem dX3_calmFrom_61 : decode cX3_calmFrom 61 = .ok (.getfield 91, 3) := by decide +kernel
theorem dX3_calmFrom_64 : decode cX3_calmFrom 64 = .ok (.iload_n 3, 1) := by decide +kernel
theorem dX3_calmFrom_65 : decode cX3_calmFrom 65 = .ok (.if_icmp .ne 7, 3) := by decide +kernel
theorem dX3_calmFrom_68 : decode cX3_calmFrom 68 = .ok (.iload_n 1, 1) := by decide +kernel
theorem dX3_calmFrom_69 : decode cX3_calmFrom 69 = .ok (.goto 4, 3) := by decide +kernel
theorem dX3_calmFrom_72 : decode cX3_calmFrom 72 = .ok (.iload_n 2, 1) := by decide +kernel
theorem dX3_calmFrom_73 : decode cX3_calmFrom 73 = .ok (.istore_n 1, 1) := by decide +kernel
theorem dX3_calmFrom_74 : decode cX3_calmFrom 74 = .ok (.goto (-66), 3) := by decide +kernel
theorem dX3_calmFrom_77 : decode cX3_calmFrom 77 = .ok (.iload_n 1, 1) := by decide +kernel
theorem dX3_calmFrom_78 : decode cX3_calmFrom 78 = .ok (.sipush 500, 3) := by decide +kernel
theorem dX3_calmFrom_81 : decode cX3_calmFrom 81 = .ok (.if_icmp .gt 7, 3) := by decide +kernel
theorem dX3_calmFrom_84 : decode cX3_calmFrom 84 = .ok (.iload_n 1, 1) := by decide +kernel
theorem dX3_calmFrom_85 : decode cX3_calmFrom 85 = .ok (.goto 4, 3) := by decide +kernel
theorem dX3_calmFrom_88 : decode cX3_calmFrom 88 = .ok (.iconst (-1), 1) := by decide +kernel
theorem dX3_calmFrom_89 : decode cX3_calmFrom 89 = .ok (.ireturn, 1) := by decide +kernel
theorem dX3_leastWord_0 : decode cX3_leastWord 0 = .ok (.iconst 1, 1) := by decide +kernel
theorem dX3_leastWord_1 : decode cX3_leastWord 1 = .ok (.istore_n 3, 1) := by decide +kernel
theorem dX3_leastWord_2 : decode cX3_leastWord 2 = .ok (.iload_n 3, 1) := by decide +kernel
theorem dX3_leastWord_3 : decode cX3_leastWord 3 = .ok (.sipush 254, 3) := by decide +kernel
theorem dX3_leastWord_6 : decode cX3_leastWord 6 = .ok (.if_icmp .gt 48, 3) := by decide +kernel
theorem dX3_leastWord_9 : decode cX3_leastWord 9 = .ok (.aload_n 0, 1) := by decide +kernel
theorem dX3_leastWord_10 : decode cX3_leastWord 10 = .ok (.iload_n 1, 1) := by decide +kernel
theorem dX3_leastWord_11 : decode cX3_leastWord 11 = .ok (.invokevirtual 45, 3) := by decide +kernel
theorem dX3_leastWord_14 : decode cX3_leastWord 14 = .ok (.aload_n 0, 1) := by decide +kernel
theorem dX3_leastWord_15 : decode cX3_leastWord 15 = .ok (.getfield 26, 3) := by decide +kernel
theorem dX3_leastWord_18 : decode cX3_leastWord 18 = .ok (.iload_n 1, 1) := by decide +kernel
theorem dX3_leastWord_19 : decode cX3_leastWord 19 = .ok (.iload_n 2, 1) := by decide +kernel
theorem dX3_leastWord_20 : decode cX3_leastWord 20 = .ok (.iload_n 3, 1) := by decide +kernel
theorem dX3_leastWord_21 : decode cX3_leastWord 21 = .ok (.invokevirtual 94, 3) := by decide +kernel
theorem dX3_leastWord_24 : decode cX3_leastWord 24 = .ok (.aload_n 0, 1) := by decide +kernel
theorem dX3_leastWord_25 : decode cX3_leastWord 25 = .ok (.getfield 26, 3) := by decide +kernel
theorem dX3_leastWord_28 : decode cX3_leastWord 28 = .ok (.sipush 300, 3) := by decide +kernel
theorem dX3_leastWord_31 : decode cX3_leastWord 31 = .ok (.invokevirtual 48, 3) := by decide +kernel
theorem dX3_leastWord_34 : decode cX3_leastWord 34 = .ok (.aload_n 0, 1) := by decide +kernel
theorem dX3_leastWord_35 : decode cX3_leastWord 35 = .ok (.getfield 12, 3) := by decide +kernel
theorem dX3_leastWord_38 : decode cX3_leastWord 38 = .ok (.iload_n 1, 1) := by decide +kernel
theorem dX3_leastWord_39 : decode cX3_leastWord 39 = .ok (.iload_n 2, 1) := by decide +kernel
theorem dX3_leastWord_40 : decode cX3_leastWord 40 = .ok (.invokevirtual 98, 3) := by decide +kernel
theorem dX3_leastWord_43 : decode cX3_leastWord 43 = .ok (.ifCond .eq 5, 3) := by decide +kernel
theorem dX3_leastWord_46 : decode cX3_leastWord 46 = .ok (.iload_n 3, 1) := by decide +kernel
theorem dX3_leastWord_47 : decode cX3_leastWord 47 = .ok (.ireturn, 1) := by decide +kernel
theorem dX3_leastWord_48 : decode cX3_leastWord 48 = .ok (.iinc 3 1, 3) := by decide +kernel
theorem dX3_leastWord_51 : decode cX3_leastWord 51 = .ok (.goto (-49), 3) := by decide +kernel
theorem dX3_leastWord_54 : decode cX3_leastWord 54 = .ok (.iconst (-1), 1) := by decide +kernel
theorem dX3_leastWord_55 : decode cX3_leastWord 55 = .ok (.ireturn, 1) := by decide +kernel
theorem dX3_takesIn_0 : decode cX3_takesIn 0 = .ok (.aload_n 0, 1) := by decide +kernel
theorem dX3_takesIn_1 : decode cX3_takesIn 1 = .ok (.iload_n 1, 1) := by decide +kernel
theorem dX3_takesIn_2 : decode cX3_takesIn 2 = .ok (.invokevirtual 45, 3) := by decide +kernel
theorem dX3_takesIn_5 : decode cX3_takesIn 5 = .ok (.aload_n 0, 1) := by decide +kernel
theorem dX3_takesIn_6 : decode cX3_takesIn 6 = .ok (.getfield 26, 3) := by decide +kernel
theorem dX3_takesIn_9 : decode cX3_takesIn 9 = .ok (.iload_n 2, 1) := by decide +kernel
theorem dX3_takesIn_10 : decode cX3_takesIn 10 = .ok (.invokevirtual 48, 3) := by decide +kernel
theorem dX3_takesIn_13 : decode cX3_takesIn 13 = .ok (.aload_n 0, 1) := by decide +kernel
theorem dX3_takesIn_14 : decode cX3_takesIn 14 = .ok (.getfield 12, 3) := by decide +kernel
theorem dX3_takesIn_17 : decode cX3_takesIn 17 = .ok (.getfield 102, 3) := by decide +kernel
theorem dX3_takesIn_20 : decode cX3_takesIn 20 = .ok (.iload_n 1, 1) := by decide +kernel
theorem dX3_takesIn_21 : decode cX3_takesIn 21 = .ok (.iaload, 1) := by decide +kernel
theorem dX3_takesIn_22 : decode cX3_takesIn 22 = .ok (.aload_n 0, 1) := by decide +kernel
theorem dX3_takesIn_23 : decode cX3_takesIn 23 = .ok (.getfield 18, 3) := by decide +kernel
theorem dX3_takesIn_26 : decode cX3_takesIn 26 = .ok (.getfield 102, 3) := by decide +kernel
theorem dX3_takesIn_29 : decode cX3_takesIn 29 = .ok (.iload_n 1, 1) := by decide +kernel
theorem dX3_takesIn_30 : decode cX3_takesIn 30 = .ok (.iaload, 1) := by decide +kernel
theorem dX3_takesIn_31 : decode cX3_takesIn 31 = .ok (.isub, 1) := by decide +kernel
theorem dX3_takesIn_32 : decode cX3_takesIn 32 = .ok (.ireturn, 1) := by decide +kernel
theorem dX3_holderWithCuts_0 : decode cX3_holderWithCuts 0 = .ok (.aload_n 0, 1) := by decide +kernel
theorem dX3_holderWithCuts_1 : decode cX3_holderWithCuts 1 = .ok (.iload_n 1, 1) := by decide +kernel
theorem dX3_holderWithCuts_2 : decode cX3_holderWithCuts 2 = .ok (.invokevirtual 45, 3) := by decide +kernel
theorem dX3_holderWithCuts_5 : decode cX3_holderWithCuts 5 = .ok (.aload_n 0, 1) := by decide +kernel
theorem dX3_holderWithCuts_6 : decode cX3_holderWithCuts 6 = .ok (.getfield 26, 3) := by decide +kernel
theorem dX3_holderWithCuts_9 : decode cX3_holderWithCuts 9 = .ok (.iload_n 3, 1) := by decide +kernel
theorem dX3_holderWithCuts_10 : decode cX3_holderWithCuts 10 = .ok (.invokevirtual 105, 3) := by decide +kernel
theorem dX3_holderWithCuts_13 : decode cX3_holderWithCuts 13 = .ok (.aload_n 0, 1) := by decide +kernel
theorem dX3_holderWithCuts_14 : decode cX3_holderWithCuts 14 = .ok (.getfield 26, 3) := by decide +kernel
theorem dX3_holderWithCuts_17 : decode cX3_holderWithCuts 17 = .ok (.sipush 300, 3) := by decide +kernel
theorem dX3_holderWithCuts_20 : decode cX3_holderWithCuts 20 = .ok (.invokevirtual 48, 3) := by decide +kernel
theorem dX3_holderWithCuts_23 : decode cX3_holderWithCuts 23 = .ok (.aload_n 0, 1) := by decide +kernel
theorem dX3_holderWithCuts_24 : decode cX3_holderWithCuts 24 = .ok (.getfield 12, 3) := by decide +kernel
theorem dX3_holderWithCuts_27 : decode cX3_holderWithCuts 27 = .ok (.iload_n 1, 1) := by decide +kernel
theorem dX3_holderWithCuts_28 : decode cX3_holderWithCuts 28 = .ok (.iload_n 2, 1) := by decide +kernel
theorem dX3_holderWithCuts_29 : decode cX3_holderWithCuts 29 = .ok (.invokevirtual 108, 3) := by decide +kernel
theorem dX3_holderWithCuts_32 : decode cX3_holderWithCuts 32 = .ok (.ireturn, 1) := by decide +kernel
theorem dX3_sentIn_0 : decode cX3_sentIn 0 = .ok (.aload_n 0, 1) := by decide +kernel
theorem dX3_sentIn_1 : decode cX3_sentIn 1 = .ok (.invokevirtual 88, 3) := by decide +kernel
theorem dX3_sentIn_4 : decode cX3_sentIn 4 = .ok (.aload_n 0, 1) := by decide +kernel
theorem dX3_sentIn_5 : decode cX3_sentIn 5 = .ok (.getfield 26, 3) := by decide +kernel
theorem dX3_sentIn_8 : decode cX3_sentIn 8 = .ok (.iload_n 1, 1) := by decide +kernel
theorem dX3_sentIn_9 : decode cX3_sentIn 9 = .ok (.invokevirtual 48, 3) := by decide +kernel
theorem dX3_sentIn_12 : decode cX3_sentIn 12 = .ok (.aload_n 0, 1) := by decide +kernel
theorem dX3_sentIn_13 : decode cX3_sentIn 13 = .ok (.getfield 12, 3) := by decide +kernel
theorem dX3_sentIn_16 : decode cX3_sentIn 16 = .ok (.getfield 111, 3) := by decide +kernel
theorem dX3_sentIn_19 : decode cX3_sentIn 19 = .ok (.aload_n 0, 1) := by decide +kernel
theorem dX3_sentIn_20 : decode cX3_sentIn 20 = .ok (.getfield 18, 3) := by decide +kernel
theorem dX3_sentIn_23 : decode cX3_sentIn 23 = .ok (.getfield 111, 3) := by decide +kernel
theorem dX3_sentIn_26 : decode cX3_sentIn 26 = .ok (.isub, 1) := by decide +kernel
theorem dX3_sentIn_27 : decode cX3_sentIn 27 = .ok (.ireturn, 1) := by decide +kernel
theorem dX3_ticksHeld_0 : decode cX3_ticksHeld 0 = .ok (.aload_n 0, 1) := by decide +kernel
theorem dX3_ticksHeld_1 : decode cX3_ticksHeld 1 = .ok (.iload_n 1, 1) := by decide +kernel
theorem dX3_ticksHeld_2 : decode cX3_ticksHeld 2 = .ok (.invokevirtual 45, 3) := by decide +kernel
theorem dX3_ticksHeld_5 : decode cX3_ticksHeld 5 = .ok (.iconst 0, 1) := by decide +kernel
theorem dX3_ticksHeld_6 : decode cX3_ticksHeld 6 = .ok (.istore 4, 2) := by decide +kernel
theorem dX3_ticksHeld_8 : decode cX3_ticksHeld 8 = .ok (.iconst 0, 1) := by decide +kernel
theorem dX3_ticksHeld_9 : decode cX3_ticksHeld 9 = .ok (.istore 5, 2) := by decide +kernel
theorem dX3_ticksHeld_11 : decode cX3_ticksHeld 11 = .ok (.iload 5, 2) := by decide +kernel
theorem dX3_ticksHeld_13 : decode cX3_ticksHeld 13 = .ok (.iload_n 3, 1) := by decide +kernel
theorem dX3_ticksHeld_14 : decode cX3_ticksHeld 14 = .ok (.if_icmp .ge 53, 3) := by decide +kernel
theorem dX3_ticksHeld_17 : decode cX3_ticksHeld 17 = .ok (.aload_n 0, 1) := by decide +kernel
theorem dX3_ticksHeld_18 : decode cX3_ticksHeld 18 = .ok (.getfield 26, 3) := by decide +kernel
theorem dX3_ticksHeld_21 : decode cX3_ticksHeld 21 = .ok (.iload_n 3, 1) := by decide +kernel
theorem dX3_ticksHeld_22 : decode cX3_ticksHeld 22 = .ok (.iload 5, 2) := by decide +kernel
theorem dX3_ticksHeld_24 : decode cX3_ticksHeld 24 = .ok (.isub, 1) := by decide +kernel
theorem dX3_ticksHeld_25 : decode cX3_ticksHeld 25 = .ok (.invokevirtual 67, 3) := by decide +kernel
theorem dX3_ticksHeld_28 : decode cX3_ticksHeld 28 = .ok (.iconst 1, 1) := by decide +kernel
theorem dX3_ticksHeld_29 : decode cX3_ticksHeld 29 = .ok (.invokestatic 71, 3) := by decide +kernel
theorem dX3_ticksHeld_32 : decode cX3_ticksHeld 32 = .ok (.istore 6, 2) := by decide +kernel
theorem dX3_ticksHeld_34 : decode cX3_ticksHeld 34 = .ok (.iload 5, 2) := by decide +kernel
theorem dX3_ticksHeld_36 : decode cX3_ticksHeld 36 = .ok (.iload 6, 2) := by decide +kernel
theorem dX3_ticksHeld_38 : decode cX3_ticksHeld 38 = .ok (.iadd, 1) := by decide +kernel
theorem dX3_ticksHeld_39 : decode cX3_ticksHeld 39 = .ok (.istore 5, 2) := by decide +kernel
theorem dX3_ticksHeld_41 : decode cX3_ticksHeld 41 = .ok (.iload 4, 2) := by decide +kernel
theorem dX3_ticksHeld_43 : decode cX3_ticksHeld 43 = .ok (.aload_n 0, 1) := by decide +kernel
theorem dX3_ticksHeld_44 : decode cX3_ticksHeld 44 = .ok (.getfield 12, 3) := by decide +kernel
theorem dX3_ticksHeld_47 : decode cX3_ticksHeld 47 = .ok (.iload_n 1, 1) := by decide +kernel
theorem dX3_ticksHeld_48 : decode cX3_ticksHeld 48 = .ok (.iload_n 2, 1) := by decide +kernel
theorem dX3_ticksHeld_49 : decode cX3_ticksHeld 49 = .ok (.invokevirtual 98, 3) := by decide +kernel
theorem dX3_ticksHeld_52 : decode cX3_ticksHeld 52 = .ok (.ifCond .eq 8, 3) := by decide +kernel
theorem dX3_ticksHeld_55 : decode cX3_ticksHeld 55 = .ok (.iload 6, 2) := by decide +kernel
theorem dX3_ticksHeld_57 : decode cX3_ticksHeld 57 = .ok (.goto 4, 3) := by decide +kernel
theorem dX3_ticksHeld_60 : decode cX3_ticksHeld 60 = .ok (.iconst 0, 1) := by decide +kernel
theorem dX3_ticksHeld_61 : decode cX3_ticksHeld 61 = .ok (.iadd, 1) := by decide +kernel
theorem dX3_ticksHeld_62 : decode cX3_ticksHeld 62 = .ok (.istore 4, 2) := by decide +kernel
theorem dX3_ticksHeld_64 : decode cX3_ticksHeld 64 = .ok (.goto (-53), 3) := by decide +kernel
theorem dX3_ticksHeld_67 : decode cX3_ticksHeld 67 = .ok (.iload 4, 2) := by decide +kernel
theorem dX3_ticksHeld_69 : decode cX3_ticksHeld 69 = .ok (.ireturn, 1) := by decide +kernel
theorem dX3_regainedBehind_0 : decode cX3_regainedBehind 0 = .ok (.aload_n 0, 1) := by decide +kernel
theorem dX3_regainedBehind_1 : decode cX3_regainedBehind 1 = .ok (.iload_n 1, 1) := by decide +kernel
theorem dX3_regainedBehind_2 : decode cX3_regainedBehind 2 = .ok (.invokevirtual 45, 3) := by decide +kernel
theorem dX3_regainedBehind_5 : decode cX3_regainedBehind 5 = .ok (.aload_n 0, 1) := by decide +kernel
theorem dX3_regainedBehind_6 : decode cX3_regainedBehind 6 = .ok (.getfield 26, 3) := by decide +kernel
theorem dX3_regainedBehind_9 : decode cX3_regainedBehind 9 = .ok (.iconst 1, 1) := by decide +kernel
theorem dX3_regainedBehind_10 : decode cX3_regainedBehind 10 = .ok (.iload_n 2, 1) := by decide +kernel
theorem dX3_regainedBehind_11 : decode cX3_regainedBehind 11 = .ok (.ishl, 1) := by decide +kernel
theorem dX3_regainedBehind_12 : decode cX3_regainedBehind 12 = .ok (.invokevirtual 114, 3) := by decide +kernel
theorem dX3_regainedBehind_15 : decode cX3_regainedBehind 15 = .ok (.aload_n 0, 1) := by decide +kernel
theorem dX3_regainedBehind_16 : decode cX3_regainedBehind 16 = .ok (.invokevirtual 59, 3) := by decide +kernel
theorem dX3_regainedBehind_19 : decode cX3_regainedBehind 19 = .ok (.istore_n 3, 1) := by decide +kernel
theorem dX3_regainedBehind_20 : decode cX3_regainedBehind 20 = .ok (.iconst 0, 1) := by decide +kernel
theorem dX3_regainedBehind_21 : decode cX3_regainedBehind 21 = .ok (.istore 4, 2) := by decide +kernel
theorem dX3_regainedBehind_23 : decode cX3_regainedBehind 23 = .ok (.iload 4, 2) := by decide +kernel
theorem dX3_regainedBehind_25 : decode cX3_regainedBehind 25 = .ok (.iload_n 3, 1) := by decide +kernel
theorem dX3_regainedBehind_26 : decode cX3_regainedBehind 26 = .ok (.if_icmp .ge 38, 3) := by decide +kernel
theorem dX3_regainedBehind_29 : decode cX3_regainedBehind 29 = .ok (.aload_n 0, 1) := by decide +kernel
theorem dX3_regainedBehind_30 : decode cX3_regainedBehind 30 = .ok (.getfield 12, 3) := by decide +kernel
theorem dX3_regainedBehind_33 : decode cX3_regainedBehind 33 = .ok (.iload_n 1, 1) := by decide +kernel
theorem dX3_regainedBehind_34 : decode cX3_regainedBehind 34 = .ok (.iload_n 2, 1) := by decide +kernel
theorem dX3_regainedBehind_35 : decode cX3_regainedBehind 35 = .ok (.invokevirtual 98, 3) := by decide +kernel
theorem dX3_regainedBehind_38 : decode cX3_regainedBehind 38 = .ok (.ifCond .ne 26, 3) := by decide +kernel
theorem dX3_regainedBehind_41 : decode cX3_regainedBehind 41 = .ok (.iload 4, 2) := by decide +kernel
theorem dX3_regainedBehind_43 : decode cX3_regainedBehind 43 = .ok (.aload_n 0, 1) := by decide +kernel
theorem dX3_regainedBehind_44 : decode cX3_regainedBehind 44 = .ok (.getfield 26, 3) := by decide +kernel
theorem dX3_regainedBehind_47 : decode cX3_regainedBehind 47 = .ok (.iload_n 3, 1) := by decide +kernel
theorem dX3_regainedBehind_48 : decode cX3_regainedBehind 48 = .ok (.iload 4, 2) := by decide +kernel
theorem dX3_regainedBehind_50 : decode cX3_regainedBehind 50 = .ok (.isub, 1) := by decide +kernel
theorem dX3_regainedBehind_51 : decode cX3_regainedBehind 51 = .ok (.invokevirtual 67, 3) := by decide +kernel
theorem dX3_regainedBehind_54 : decode cX3_regainedBehind 54 = .ok (.iconst 1, 1) := by decide +kernel
theorem dX3_regainedBehind_55 : decode cX3_regainedBehind 55 = .ok (.invokestatic 71, 3) := by decide +kernel
theorem dX3_regainedBehind_58 : decode cX3_regainedBehind 58 = .ok (.iadd, 1) := by decide +kernel
theorem dX3_regainedBehind_59 : decode cX3_regainedBehind 59 = .ok (.istore 4, 2) := by decide +kernel
theorem dX3_regainedBehind_61 : decode cX3_regainedBehind 61 = .ok (.goto (-38), 3) := by decide +kernel
theorem dX3_regainedBehind_64 : decode cX3_regainedBehind 64 = .ok (.aload_n 0, 1) := by decide +kernel
theorem dX3_regainedBehind_65 : decode cX3_regainedBehind 65 = .ok (.getfield 12, 3) := by decide +kernel
theorem dX3_regainedBehind_68 : decode cX3_regainedBehind 68 = .ok (.iload_n 1, 1) := by decide +kernel
theorem dX3_regainedBehind_69 : decode cX3_regainedBehind 69 = .ok (.iload_n 2, 1) := by decide +kernel
theorem dX3_regainedBehind_70 : decode cX3_regainedBehind 70 = .ok (.invokevirtual 98, 3) := by decide +kernel
theorem dX3_regainedBehind_73 : decode cX3_regainedBehind 73 = .ok (.ifCond .eq 8, 3) := by decide +kernel
theorem dX3_regainedBehind_76 : decode cX3_regainedBehind 76 = .ok (.iload 4, 2) := by decide +kernel
theorem dX3_regainedBehind_78 : decode cX3_regainedBehind 78 = .ok (.goto 4, 3) := by decide +kernel
theorem dX3_regainedBehind_81 : decode cX3_regainedBehind 81 = .ok (.iconst (-1), 1) := by decide +kernel
theorem dX3_regainedBehind_82 : decode cX3_regainedBehind 82 = .ok (.ireturn, 1) := by decide +kernel
