theorem dX12_isMember_33 : decode cX12_isMember 33 = .ok (.goto 4, 3) := by decide +kernel
theorem dX12_isMember_36 : decode cX12_isMember 36 = .ok (.iconst 0, 1) := by decide +kernel
theorem dX12_isMember_37 : decode cX12_isMember 37 = .ok (.ireturn, 1) := by decide +kernel
theorem dX12_wordOf_0 : decode cX12_wordOf 0 = .ok (.aload_n 0, 1) := by decide +kernel
theorem dX12_wordOf_1 : decode cX12_wordOf 1 = .ok (.getfield 27, 3) := by decide +kernel
theorem dX12_wordOf_4 : decode cX12_wordOf 4 = .ok (.bipush 10, 2) := by decide +kernel
theorem dX12_wordOf_6 : decode cX12_wordOf 6 = .ok (.iload_n 1, 1) := by decide +kernel
theorem dX12_wordOf_7 : decode cX12_wordOf 7 = .ok (.iload_n 2, 1) := by decide +kernel
theorem dX12_wordOf_8 : decode cX12_wordOf 8 = .ok (.invokestatic 190, 3) := by decide +kernel
theorem dX12_wordOf_11 : decode cX12_wordOf 11 = .ok (.iadd, 1) := by decide +kernel
theorem dX12_wordOf_12 : decode cX12_wordOf 12 = .ok (.iaload, 1) := by decide +kernel
theorem dX12_wordOf_13 : decode cX12_wordOf 13 = .ok (.istore_n 3, 1) := by decide +kernel
theorem dX12_wordOf_14 : decode cX12_wordOf 14 = .ok (.iload_n 3, 1) := by decide +kernel
theorem dX12_wordOf_15 : decode cX12_wordOf 15 = .ok (.sipush 255, 3) := by decide +kernel
theorem dX12_wordOf_18 : decode cX12_wordOf 18 = .ok (.if_icmp .ne 5, 3) := by decide +kernel
theorem dX12_wordOf_21 : decode cX12_wordOf 21 = .ok (.iload_n 3, 1) := by decide +kernel
theorem dX12_wordOf_22 : decode cX12_wordOf 22 = .ok (.ireturn, 1) := by decide +kernel
theorem dX12_wordOf_23 : decode cX12_wordOf 23 = .ok (.iconst 0, 1) := by decide +kernel
theorem dX12_wordOf_24 : decode cX12_wordOf 24 = .ok (.istore 4, 2) := by decide +kernel
theorem dX12_wordOf_26 : decode cX12_wordOf 26 = .ok (.iload 4, 2) := by decide +kernel
theorem dX12_wordOf_28 : decode cX12_wordOf 28 = .ok (.aload_n 0, 1) := by decide +kernel
theorem dX12_wordOf_29 : decode cX12_wordOf 29 = .ok (.getfield 17, 3) := by decide +kernel
theorem dX12_wordOf_32 : decode cX12_wordOf 32 = .ok (.iconst 3, 1) := by decide +kernel
theorem dX12_wordOf_33 : decode cX12_wordOf 33 = .ok (.iaload, 1) := by decide +kernel
theorem dX12_wordOf_34 : decode cX12_wordOf 34 = .ok (.if_icmp .ge 86, 3) := by decide +kernel
theorem dX12_wordOf_37 : decode cX12_wordOf 37 = .ok (.aload_n 0, 1) := by decide +kernel
theorem dX12_wordOf_38 : decode cX12_wordOf 38 = .ok (.getfield 17, 3) := by decide +kernel
theorem dX12_wordOf_41 : decode cX12_wordOf 41 = .ok (.bipush 113, 2) := by decide +kernel
theorem dX12_wordOf_43 : decode cX12_wordOf 43 = .ok (.iconst 4, 1) := by decide +kernel
theorem dX12_wordOf_44 : decode cX12_wordOf 44 = .ok (.iload 4, 2) := by decide +kernel
theorem dX12_wordOf_46 : decode cX12_wordOf 46 = .ok (.imul, 1) := by decide +kernel
theorem dX12_wordOf_47 : decode cX12_wordOf 47 = .ok (.iadd, 1) := by decide +kernel
theorem dX12_wordOf_48 : decode cX12_wordOf 48 = .ok (.iaload, 1) := by decide +kernel
theorem dX12_wordOf_49 : decode cX12_wordOf 49 = .ok (.iload_n 1, 1) := by decide +kernel
theorem dX12_wordOf_50 : decode cX12_wordOf 50 = .ok (.if_icmp .ne 64, 3) := by decide +kernel
theorem dX12_wordOf_53 : decode cX12_wordOf 53 = .ok (.aload_n 0, 1) := by decide +kernel
theorem dX12_wordOf_54 : decode cX12_wordOf 54 = .ok (.getfield 17, 3) := by decide +kernel
theorem dX12_wordOf_57 : decode cX12_wordOf 57 = .ok (.bipush 113, 2) := by decide +kernel
theorem dX12_wordOf_59 : decode cX12_wordOf 59 = .ok (.iconst 4, 1) := by decide +kernel
theorem dX12_wordOf_60 : decode cX12_wordOf 60 = .ok (.iload 4, 2) := by decide +kernel
theorem dX12_wordOf_62 : decode cX12_wordOf 62 = .ok (.imul, 1) := by decide +kernel
theorem dX12_wordOf_63 : decode cX12_wordOf 63 = .ok (.iadd, 1) := by decide +kernel
theorem dX12_wordOf_64 : decode cX12_wordOf 64 = .ok (.iconst 1, 1) := by decide +kernel
theorem dX12_wordOf_65 : decode cX12_wordOf 65 = .ok (.iadd, 1) := by decide +kernel
theorem dX12_wordOf_66 : decode cX12_wordOf 66 = .ok (.iaload, 1) := by decide +kernel
theorem dX12_wordOf_67 : decode cX12_wordOf 67 = .ok (.iload_n 2, 1) := by decide +kernel
theorem dX12_wordOf_68 : decode cX12_wordOf 68 = .ok (.if_icmp .ne 46, 3) := by decide +kernel
theorem dX12_wordOf_71 : decode cX12_wordOf 71 = .ok (.aload_n 0, 1) := by decide +kernel
theorem dX12_wordOf_72 : decode cX12_wordOf 72 = .ok (.getfield 27, 3) := by decide +kernel
theorem dX12_wordOf_75 : decode cX12_wordOf 75 = .ok (.iconst 2, 1) := by decide +kernel
theorem dX12_wordOf_76 : decode cX12_wordOf 76 = .ok (.iaload, 1) := by decide +kernel
theorem dX12_wordOf_77 : decode cX12_wordOf 77 = .ok (.aload_n 0, 1) := by decide +kernel
theorem dX12_wordOf_78 : decode cX12_wordOf 78 = .ok (.getfield 17, 3) := by decide +kernel
theorem dX12_wordOf_81 : decode cX12_wordOf 81 = .ok (.bipush 113, 2) := by decide +kernel
theorem dX12_wordOf_83 : decode cX12_wordOf 83 = .ok (.iconst 4, 1) := by decide +kernel
theorem dX12_wordOf_84 : decode cX12_wordOf 84 = .ok (.iload 4, 2) := by decide +kernel
theorem dX12_wordOf_86 : decode cX12_wordOf 86 = .ok (.imul, 1) := by decide +kernel
theorem dX12_wordOf_87 : decode cX12_wordOf 87 = .ok (.iadd, 1) := by decide +kernel
theorem dX12_wordOf_88 : decode cX12_wordOf 88 = .ok (.iconst 2, 1) := by decide +kernel
theorem dX12_wordOf_89 : decode cX12_wordOf 89 = .ok (.iadd, 1) := by decide +kernel
theorem dX12_wordOf_90 : decode cX12_wordOf 90 = .ok (.iaload, 1) := by decide +kernel
theorem dX12_wordOf_91 : decode cX12_wordOf 91 = .ok (.invokestatic 186, 3) := by decide +kernel
theorem dX12_wordOf_94 : decode cX12_wordOf 94 = .ok (.ifCond .eq 20, 3) := by decide +kernel
theorem dX12_wordOf_97 : decode cX12_wordOf 97 = .ok (.iload_n 3, 1) := by decide +kernel
theorem dX12_wordOf_98 : decode cX12_wordOf 98 = .ok (.aload_n 0, 1) := by decide +kernel
theorem dX12_wordOf_99 : decode cX12_wordOf 99 = .ok (.getfield 17, 3) := by decide +kernel
theorem dX12_wordOf_102 : decode cX12_wordOf 102 = .ok (.bipush 113, 2) := by decide +kernel
theorem dX12_wordOf_104 : decode cX12_wordOf 104 = .ok (.iconst 4, 1) := by decide +kernel
theorem dX12_wordOf_105 : decode cX12_wordOf 105 = .ok (.iload 4, 2) := by decide +kernel
theorem dX12_wordOf_107 : decode cX12_wordOf 107 = .ok (.imul, 1) := by decide +kernel
theorem dX12_wordOf_108 : decode cX12_wordOf 108 = .ok (.iadd, 1) := by decide +kernel
theorem dX12_wordOf_109 : decode cX12_wordOf 109 = .ok (.iconst 3, 1) := by decide +kernel
theorem dX12_wordOf_110 : decode cX12_wordOf 110 = .ok (.iadd, 1) := by decide +kernel
theorem dX12_wordOf_111 : decode cX12_wordOf 111 = .ok (.iaload, 1) := by decide +kernel
theorem dX12_wordOf_112 : decode cX12_wordOf 112 = .ok (.isub, 1) := by decide +kernel
theorem dX12_wordOf_113 : decode cX12_wordOf 113 = .ok (.istore_n 3, 1) := by decide +kernel
theorem dX12_wordOf_114 : decode cX12_wordOf 114 = .ok (.iinc 4 1, 3) := by decide +kernel
theorem dX12_wordOf_117 : decode cX12_wordOf 117 = .ok (.goto (-91), 3) := by decide +kernel
theorem dX12_wordOf_120 : decode cX12_wordOf 120 = .ok (.iconst 1, 1) := by decide +kernel
theorem dX12_wordOf_121 : decode cX12_wordOf 121 = .ok (.iload_n 3, 1) := by decide +kernel
theorem dX12_wordOf_122 : decode cX12_wordOf 122 = .ok (.invokestatic 265, 3) := by decide +kernel
theorem dX12_wordOf_125 : decode cX12_wordOf 125 = .ok (.ireturn, 1) := by decide +kernel
theorem dX12_logs_0 : decode cX12_logs 0 = .ok (.aload_n 0, 1) := by decide +kernel
theorem dX12_logs_1 : decode cX12_logs 1 = .ok (.getfield 27, 3) := by decide +kernel
theorem dX12_logs_4 : decode cX12_logs 4 = .ok (.bipush 7, 2) := by decide +kernel
theorem dX12_logs_6 : decode cX12_logs 6 = .ok (.iaload, 1) := by decide +kernel
theorem dX12_logs_7 : decode cX12_logs 7 = .ok (.iconst 1, 1) := by decide +kernel
theorem dX12_logs_8 : decode cX12_logs 8 = .ok (.iadd, 1) := by decide +kernel
theorem dX12_logs_9 : decode cX12_logs 9 = .ok (.bipush 60, 2) := by decide +kernel
theorem dX12_logs_11 : decode cX12_logs 11 = .ok (.invokestatic 274, 3) := by decide +kernel
theorem dX12_logs_14 : decode cX12_logs 14 = .ok (.istore 4, 2) := by decide +kernel
theorem dX12_logs_16 : decode cX12_logs 16 = .ok (.iconst 4, 1) := by decide +kernel
theorem dX12_logs_17 : decode cX12_logs 17 = .ok (.iload 4, 2) := by decide +kernel
theorem dX12_logs_19 : decode cX12_logs 19 = .ok (.imul, 1) := by decide +kernel
theorem dX12_logs_20 : decode cX12_logs 20 = .ok (.iconst 1, 1) := by decide +kernel
theorem dX12_logs_21 : decode cX12_logs 21 = .ok (.isub, 1) := by decide +kernel
theorem dX12_logs_22 : decode cX12_logs 22 = .ok (.istore 5, 2) := by decide +kernel
theorem dX12_logs_24 : decode cX12_logs 24 = .ok (.iload 5, 2) := by decide +kernel
theorem dX12_logs_26 : decode cX12_logs 26 = .ok (.iconst 4, 1) := by decide +kernel
theorem dX12_logs_27 : decode cX12_logs 27 = .ok (.if_icmp .lt 33, 3) := by decide +kernel
theorem dX12_logs_30 : decode cX12_logs 30 = .ok (.aload_n 0, 1) := by decide +kernel
theorem dX12_logs_31 : decode cX12_logs 31 = .ok (.getfield 27, 3) := by decide +kernel
theorem dX12_logs_34 : decode cX12_logs 34 = .ok (.sipush 245, 3) := by decide +kernel
theorem dX12_logs_37 : decode cX12_logs 37 = .ok (.iload 5, 2) := by decide +kernel
theorem dX12_logs_39 : decode cX12_logs 39 = .ok (.iadd, 1) := by decide +kernel
theorem dX12_logs_40 : decode cX12_logs 40 = .ok (.aload_n 0, 1) := by decide +kernel
theorem dX12_logs_41 : decode cX12_logs 41 = .ok (.getfield 27, 3) := by decide +kernel
theorem dX12_logs_44 : decode cX12_logs 44 = .ok (.sipush 245, 3) := by decide +kernel
theorem dX12_logs_47 : decode cX12_logs 47 = .ok (.iload 5, 2) := by decide +kernel
theorem dX12_logs_49 : decode cX12_logs 49 = .ok (.iadd, 1) := by decide +kernel
theorem dX12_logs_50 : decode cX12_logs 50 = .ok (.iconst 4, 1) := by decide +kernel
theorem dX12_logs_51 : decode cX12_logs 51 = .ok (.isub, 1) := by decide +kernel
theorem dX12_logs_52 : decode cX12_logs 52 = .ok (.iaload, 1) := by decide +kernel
theorem dX12_logs_53 : decode cX12_logs 53 = .ok (.iastore, 1) := by decide +kernel
theorem dX12_logs_54 : decode cX12_logs 54 = .ok (.iinc 5 (-1), 3) := by decide +kernel
theorem dX12_logs_57 : decode cX12_logs 57 = .ok (.goto (-33), 3) := by decide +kernel
theorem dX12_logs_60 : decode cX12_logs 60 = .ok (.aload_n 0, 1) := by decide +kernel
theorem dX12_logs_61 : decode cX12_logs 61 = .ok (.getfield 27, 3) := by decide +kernel
theorem dX12_logs_64 : decode cX12_logs 64 = .ok (.sipush 245, 3) := by decide +kernel
theorem dX12_logs_67 : decode cX12_logs 67 = .ok (.aload_n 0, 1) := by decide +kernel
theorem dX12_logs_68 : decode cX12_logs 68 = .ok (.getfield 27, 3) := by decide +kernel
theorem dX12_logs_71 : decode cX12_logs 71 = .ok (.iconst 0, 1) := by decide +kernel
theorem dX12_logs_72 : decode cX12_logs 72 = .ok (.iaload, 1) := by decide +kernel
theorem dX12_logs_73 : decode cX12_logs 73 = .ok (.iastore, 1) := by decide +kernel
theorem dX12_logs_74 : decode cX12_logs 74 = .ok (.aload_n 0, 1) := by decide +kernel
theorem dX12_logs_75 : decode cX12_logs 75 = .ok (.getfield 27, 3) := by decide +kernel
theorem dX12_logs_78 : decode cX12_logs 78 = .ok (.sipush 246, 3) := by decide +kernel
theorem dX12_logs_81 : decode cX12_logs 81 = .ok (.iload_n 1, 1) := by decide +kernel
theorem dX12_logs_82 : decode cX12_logs 82 = .ok (.iastore, 1) := by decide +kernel
theorem dX12_logs_83 : decode cX12_logs 83 = .ok (.aload_n 0, 1) := by decide +kernel
theorem dX12_logs_84 : decode cX12_logs 84 = .ok (.getfield 27, 3) := by decide +kernel
theorem dX12_logs_87 : decode cX12_logs 87 = .ok (.sipush 247, 3) := by decide +kernel
theorem dX12_logs_90 : decode cX12_logs 90 = .ok (.iload_n 2, 1) := by decide +kernel
theorem dX12_logs_91 : decode cX12_logs 91 = .ok (.iastore, 1) := by decide +kernel
theorem dX12_logs_92 : decode cX12_logs 92 = .ok (.aload_n 0, 1) := by decide +kernel
theorem dX12_logs_93 : decode cX12_logs 93 = .ok (.getfield 27, 3) := by decide +kernel
theorem dX12_logs_96 : decode cX12_logs 96 = .ok (.sipush 248, 3) := by decide +kernel
theorem dX12_logs_99 : decode cX12_logs 99 = .ok (.iload_n 3, 1) := by decide +kernel
theorem dX12_logs_100 : decode cX12_logs 100 = .ok (.iastore, 1) := by decide +kernel
theorem dX12_logs_101 : decode cX12_logs 101 = .ok (.aload_n 0, 1) := by decide +kernel
theorem dX12_logs_102 : decode cX12_logs 102 = .ok (.getfield 27, 3) := by decide +kernel
theorem dX12_logs_105 : decode cX12_logs 105 = .ok (.bipush 7, 2) := by decide +kernel
theorem dX12_logs_107 : decode cX12_logs 107 = .ok (.iload 4, 2) := by decide +kernel
theorem dX12_logs_109 : decode cX12_logs 109 = .ok (.iastore, 1) := by decide +kernel
theorem dX12_logs_110 : decode cX12_logs 110 = .ok (.return_, 1) := by decide +kernel
theorem dX12_toHold_0 : decode cX12_toHold 0 = .ok (.aload_n 0, 1) := by decide +kernel
theorem dX12_toHold_1 : decode cX12_toHold 1 = .ok (.getfield 27, 3) := by decide +kernel
theorem dX12_toHold_4 : decode cX12_toHold 4 = .ok (.bipush 40, 2) := by decide +kernel
theorem dX12_toHold_6 : decode cX12_toHold 6 = .ok (.iload_n 1, 1) := by decide +kernel
theorem dX12_toHold_7 : decode cX12_toHold 7 = .ok (.iload_n 2, 1) := by decide +kernel
theorem dX12_toHold_8 : decode cX12_toHold 8 = .ok (.invokestatic 190, 3) := by decide +kernel
theorem dX12_toHold_11 : decode cX12_toHold 11 = .ok (.iadd, 1) := by decide +kernel
theorem dX12_toHold_12 : decode cX12_toHold 12 = .ok (.iconst 2, 1) := by decide +kernel
theorem dX12_toHold_13 : decode cX12_toHold 13 = .ok (.iastore, 1) := by decide +kernel
theorem dX12_toHold_14 : decode cX12_toHold 14 = .ok (.aload_n 0, 1) := by decide +kernel
theorem dX12_toHold_15 : decode cX12_toHold 15 = .ok (.getfield 27, 3) := by decide +kernel
theorem dX12_toHold_18 : decode cX12_toHold 18 = .ok (.bipush 70, 2) := by decide +kernel
theorem dX12_toHold_20 : decode cX12_toHold 20 = .ok (.iload_n 1, 1) := by decide +kernel
theorem dX12_toHold_21 : decode cX12_toHold 21 = .ok (.iload_n 2, 1) := by decide +kernel
theorem dX12_toHold_22 : decode cX12_toHold 22 = .ok (.invokestatic 190, 3) := by decide +kernel
theorem dX12_toHold_25 : decode cX12_toHold 25 = .ok (.iadd, 1) := by decide +kernel
theorem dX12_toHold_26 : decode cX12_toHold 26 = .ok (.iconst 0, 1) := by decide +kernel
theorem dX12_toHold_27 : decode cX12_toHold 27 = .ok (.iastore, 1) := by decide +kernel
theorem dX12_toHold_28 : decode cX12_toHold 28 = .ok (.aload_n 0, 1) := by decide +kernel
theorem dX12_toHold_29 : decode cX12_toHold 29 = .ok (.getfield 27, 3) := by decide +kernel
theorem dX12_toHold_32 : decode cX12_toHold 32 = .ok (.bipush 100, 2) := by decide +kernel
theorem dX12_toHold_34 : decode cX12_toHold 34 = .ok (.iload_n 1, 1) := by decide +kernel
theorem dX12_toHold_35 : decode cX12_toHold 35 = .ok (.iload_n 2, 1) := by decide +kernel
theorem dX12_toHold_36 : decode cX12_toHold 36 = .ok (.invokestatic 190, 3) := by decide +kernel
theorem dX12_toHold_39 : decode cX12_toHold 39 = .ok (.iadd, 1) := by decide +kernel
theorem dX12_toHold_40 : decode cX12_toHold 40 = .ok (.iconst 0, 1) := by decide +kernel
theorem dX12_toHold_41 : decode cX12_toHold 41 = .ok (.iastore, 1) := by decide +kernel
theorem dX12_toHold_42 : decode cX12_toHold 42 = .ok (.aload_n 0, 1) := by decide +kernel
theorem dX12_toHold_43 : decode cX12_toHold 43 = .ok (.getfield 27, 3) := by decide +kernel
theorem dX12_toHold_46 : decode cX12_toHold 46 = .ok (.sipush 140, 3) := by decide +kernel
theorem dX12_toHold_49 : decode cX12_toHold 49 = .ok (.iload_n 1, 1) := by decide +kernel
theorem dX12_toHold_50 : decode cX12_toHold 50 = .ok (.iadd, 1) := by decide +kernel
theorem dX12_toHold_51 : decode cX12_toHold 51 = .ok (.dup2, 1) := by decide +kernel
theorem dX12_toHold_52 : decode cX12_toHold 52 = .ok (.iaload, 1) := by decide +kernel
theorem dX12_toHold_53 : decode cX12_toHold 53 = .ok (.iconst 1, 1) := by decide +kernel
theorem dX12_toHold_54 : decode cX12_toHold 54 = .ok (.iadd, 1) := by decide +kernel
theorem dX12_toHold_55 : decode cX12_toHold 55 = .ok (.iastore, 1) := by decide +kernel
theorem dX12_toHold_56 : decode cX12_toHold 56 = .ok (.aload_n 0, 1) := by decide +kernel
theorem dX12_toHold_57 : decode cX12_toHold 57 = .ok (.dup, 1) := by decide +kernel
theorem dX12_toHold_58 : decode cX12_toHold 58 = .ok (.getfield 280, 3) := by decide +kernel
theorem dX12_toHold_61 : decode cX12_toHold 61 = .ok (.iconst 1, 1) := by decide +kernel
theorem dX12_toHold_62 : decode cX12_toHold 62 = .ok (.iadd, 1) := by decide +kernel
theorem dX12_toHold_63 : decode cX12_toHold 63 = .ok (.putfield 280, 3) := by decide +kernel
theorem dX12_toHold_66 : decode cX12_toHold 66 = .ok (.aload_n 0, 1) := by decide +kernel
theorem dX12_toHold_67 : decode cX12_toHold 67 = .ok (.iload_n 1, 1) := by decide +kernel
theorem dX12_toHold_68 : decode cX12_toHold 68 = .ok (.iload_n 2, 1) := by decide +kernel
theorem dX12_toHold_69 : decode cX12_toHold 69 = .ok (.iconst 0, 1) := by decide +kernel
theorem dX12_toHold_70 : decode cX12_toHold 70 = .ok (.invokevirtual 283, 3) := by decide +kernel
theorem dX12_toHold_73 : decode cX12_toHold 73 = .ok (.return_, 1) := by decide +kernel
theorem dX12_skewOf_0 : decode cX12_skewOf 0 = .ok (.aload_n 0, 1) := by decide +kernel
theorem dX12_skewOf_1 : decode cX12_skewOf 1 = .ok (.getfield 17, 3) := by decide +kernel
theorem dX12_skewOf_4 : decode cX12_skewOf 4 = .ok (.bipush 28, 2) := by decide +kernel
theorem dX12_skewOf_6 : decode cX12_skewOf 6 = .ok (.iload_n 1, 1) := by decide +kernel
theorem dX12_skewOf_7 : decode cX12_skewOf 7 = .ok (.iadd, 1) := by decide +kernel
theorem dX12_skewOf_8 : decode cX12_skewOf 8 = .ok (.iaload, 1) := by decide +kernel
theorem dX12_skewOf_9 : decode cX12_skewOf 9 = .ok (.sipush 256, 3) := by decide +kernel
theorem dX12_skewOf_12 : decode cX12_skewOf 12 = .ok (.aload_n 0, 1) := by decide +kernel
theorem dX12_skewOf_13 : decode cX12_skewOf 13 = .ok (.iload_n 1, 1) := by decide +kernel
theorem dX12_skewOf_14 : decode cX12_skewOf 14 = .ok (.iload_n 2, 1) := by decide +kernel
theorem dX12_skewOf_15 : decode cX12_skewOf 15 = .ok (.invokevirtual 268, 3) := by decide +kernel
theorem dX12_skewOf_18 : decode cX12_skewOf 18 = .ok (.isub, 1) := by decide +kernel
theorem dX12_skewOf_19 : decode cX12_skewOf 19 = .ok (.imul, 1) := by decide +kernel
theorem dX12_skewOf_20 : decode cX12_skewOf 20 = .ok (.sipush 256, 3) := by decide +kernel
theorem dX12_skewOf_23 : decode cX12_skewOf 23 = .ok (.idiv, 1) := by decide +kernel
theorem dX12_skewOf_24 : decode cX12_skewOf 24 = .ok (.ireturn, 1) := by decide +kernel
theorem dX12_patienceOf_0 : decode cX12_patienceOf 0 = .ok (.iconst 3, 1) := by decide +kernel
theorem dX12_patienceOf_1 : decode cX12_patienceOf 1 = .ok (.aload_n 0, 1) := by decide +kernel
theorem dX12_patienceOf_2 : decode cX12_patienceOf 2 = .ok (.getfield 17, 3) := by decide +kernel
theorem dX12_patienceOf_5 : decode cX12_patienceOf 5 = .ok (.bipush 28, 2) := by decide +kernel
theorem dX12_patienceOf_7 : decode cX12_patienceOf 7 = .ok (.iload_n 1, 1) := by decide +kernel
theorem dX12_patienceOf_8 : decode cX12_patienceOf 8 = .ok (.iadd, 1) := by decide +kernel
theorem dX12_patienceOf_9 : decode cX12_patienceOf 9 = .ok (.iaload, 1) := by decide +kernel
theorem dX12_patienceOf_10 : decode cX12_patienceOf 10 = .ok (.imul, 1) := by decide +kernel
theorem dX12_patienceOf_11 : decode cX12_patienceOf 11 = .ok (.aload_n 0, 1) := by decide +kernel
theorem dX12_patienceOf_12 : decode cX12_patienceOf 12 = .ok (.iload_n 1, 1) := by decide +kernel
theorem dX12_patienceOf_13 : decode cX12_patienceOf 13 = .ok (.iload_n 2, 1) := by decide +kernel
theorem dX12_patienceOf_14 : decode cX12_patienceOf 14 = .ok (.invokevirtual 271, 3) := by decide +kernel
theorem dX12_patienceOf_17 : decode cX12_patienceOf 17 = .ok (.iadd, 1) := by decide +kernel
theorem dX12_patienceOf_18 : decode cX12_patienceOf 18 = .ok (.ireturn, 1) := by decide +kernel
theorem dX12_toWait_0 : decode cX12_toWait 0 = .ok (.aload_n 0, 1) := by decide +kernel
theorem dX12_toWait_1 : decode cX12_toWait 1 = .ok (.getfield 27, 3) := by decide +kernel
theorem dX12_toWait_4 : decode cX12_toWait 4 = .ok (.bipush 40, 2) := by decide +kernel
theorem dX12_toWait_6 : decode cX12_toWait 6 = .ok (.iload_n 1, 1) := by decide +kernel
theorem dX12_toWait_7 : decode cX12_toWait 7 = .ok (.iload_n 2, 1) := by decide +kernel
theorem dX12_toWait_8 : decode cX12_toWait 8 = .ok (.invokestatic 190, 3) := by decide +kernel
theorem dX12_toWait_11 : decode cX12_toWait 11 = .ok (.iadd, 1) := by decide +kernel
theorem dX12_toWait_12 : decode cX12_toWait 12 = .ok (.iconst 1, 1) := by decide +kernel
theorem dX12_toWait_13 : decode cX12_toWait 13 = .ok (.iastore, 1) := by decide +kernel
theorem dX12_toWait_14 : decode cX12_toWait 14 = .ok (.aload_n 0, 1) := by decide +kernel
theorem dX12_toWait_15 : decode cX12_toWait 15 = .ok (.getfield 27, 3) := by decide +kernel
theorem dX12_toWait_18 : decode cX12_toWait 18 = .ok (.bipush 70, 2) := by decide +kernel
theorem dX12_toWait_20 : decode cX12_toWait 20 = .ok (.iload_n 1, 1) := by decide +kernel
theorem dX12_toWait_21 : decode cX12_toWait 21 = .ok (.iload_n 2, 1) := by decide +kernel
theorem dX12_toWait_22 : decode cX12_toWait 22 = .ok (.invokestatic 190, 3) := by decide +kernel
theorem dX12_toWait_25 : decode cX12_toWait 25 = .ok (.iadd, 1) := by decide +kernel
theorem dX12_toWait_26 : decode cX12_toWait 26 = .ok (.aload_n 0, 1) := by decide +kernel
theorem dX12_toWait_27 : decode cX12_toWait 27 = .ok (.iload_n 1, 1) := by decide +kernel
theorem dX12_toWait_28 : decode cX12_toWait 28 = .ok (.iload_n 2, 1) := by decide +kernel
theorem dX12_toWait_29 : decode cX12_toWait 29 = .ok (.invokevirtual 277, 3) := by decide +kernel
theorem dX12_toWait_32 : decode cX12_toWait 32 = .ok (.iastore, 1) := by decide +kernel
theorem dX12_toWait_33 : decode cX12_toWait 33 = .ok (.aload_n 0, 1) := by decide +kernel
theorem dX12_toWait_34 : decode cX12_toWait 34 = .ok (.getfield 27, 3) := by decide +kernel
theorem dX12_toWait_37 : decode cX12_toWait 37 = .ok (.bipush 100, 2) := by decide +kernel
theorem dX12_toWait_39 : decode cX12_toWait 39 = .ok (.iload_n 1, 1) := by decide +kernel
theorem dX12_toWait_40 : decode cX12_toWait 40 = .ok (.iload_n 2, 1) := by decide +kernel
theorem dX12_toWait_41 : decode cX12_toWait 41 = .ok (.invokestatic 190, 3) := by decide +kernel
theorem dX12_toWait_44 : decode cX12_toWait 44 = .ok (.iadd, 1) := by decide +kernel
theorem dX12_toWait_45 : decode cX12_toWait 45 = .ok (.iconst 0, 1) := by decide +kernel
theorem dX12_toWait_46 : decode cX12_toWait 46 = .ok (.iastore, 1) := by decide +kernel
theorem dX12_toWait_47 : decode cX12_toWait 47 = .ok (.return_, 1) := by decide +kernel
theorem dX12_starts_0 : decode cX12_starts 0 = .ok (.iconst 0, 1) := by decide +kernel
theorem dX12_starts_1 : decode cX12_starts 1 = .ok (.istore_n 1, 1) := by decide +kernel
theorem dX12_starts_2 : decode cX12_starts 2 = .ok (.iload_n 1, 1) := by decide +kernel
theorem dX12_starts_3 : decode cX12_starts 3 = .ok (.sipush 490, 3) := by decide +kernel
theorem dX12_starts_6 : decode cX12_starts 6 = .ok (.if_icmp .ge 16, 3) := by decide +kernel
theorem dX12_starts_9 : decode cX12_starts 9 = .ok (.aload_n 0, 1) := by decide +kernel
theorem dX12_starts_10 : decode cX12_starts 10 = .ok (.getfield 27, 3) := by decide +kernel
theorem dX12_starts_13 : decode cX12_starts 13 = .ok (.iload_n 1, 1) := by decide +kernel
theorem dX12_starts_14 : decode cX12_starts 14 = .ok (.iconst 0, 1) := by decide +kernel
theorem dX12_starts_15 : decode cX12_starts 15 = .ok (.iastore, 1) := by decide +kernel
theorem dX12_starts_16 : decode cX12_starts 16 = .ok (.iinc 1 1, 3) := by decide +kernel
theorem dX12_starts_19 : decode cX12_starts 19 = .ok (.goto (-17), 3) := by decide +kernel
theorem dX12_starts_22 : decode cX12_starts 22 = .ok (.aload_n 0, 1) := by decide +kernel
theorem dX12_starts_23 : decode cX12_starts 23 = .ok (.getfield 27, 3) := by decide +kernel
theorem dX12_starts_26 : decode cX12_starts 26 = .ok (.bipush 9, 2) := by decide +kernel
theorem dX12_starts_28 : decode cX12_starts 28 = .ok (.iconst 1, 1) := by decide +kernel
theorem dX12_starts_29 : decode cX12_starts 29 = .ok (.iastore, 1) := by decide +kernel
theorem dX12_starts_30 : decode cX12_starts 30 = .ok (.iconst 0, 1) := by decide +kernel
theorem dX12_starts_31 : decode cX12_starts 31 = .ok (.istore_n 1, 1) := by decide +kernel
theorem dX12_starts_32 : decode cX12_starts 32 = .ok (.iload_n 1, 1) := by decide +kernel
theorem dX12_starts_33 : decode cX12_starts 33 = .ok (.bipush 30, 2) := by decide +kernel
theorem dX12_starts_35 : decode cX12_starts 35 = .ok (.if_icmp .ge 27, 3) := by decide +kernel
theorem dX12_starts_38 : decode cX12_starts 38 = .ok (.aload_n 0, 1) := by decide +kernel
theorem dX12_starts_39 : decode cX12_starts 39 = .ok (.getfield 27, 3) := by decide +kernel
theorem dX12_starts_42 : decode cX12_starts 42 = .ok (.bipush 10, 2) := by decide +kernel
theorem dX12_starts_44 : decode cX12_starts 44 = .ok (.iload_n 1, 1) := by decide +kernel
theorem dX12_starts_45 : decode cX12_starts 45 = .ok (.iadd, 1) := by decide +kernel
theorem dX12_starts_46 : decode cX12_starts 46 = .ok (.aload_n 0, 1) := by decide +kernel
theorem dX12_starts_47 : decode cX12_starts 47 = .ok (.getfield 17, 3) := by decide +kernel
theorem dX12_starts_50 : decode cX12_starts 50 = .ok (.bipush 53, 2) := by decide +kernel
theorem dX12_starts_52 : decode cX12_starts 52 = .ok (.iload_n 1, 1) := by decide +kernel
theorem dX12_starts_53 : decode cX12_starts 53 = .ok (.iadd, 1) := by decide +kernel
theorem dX12_starts_54 : decode cX12_starts 54 = .ok (.iaload, 1) := by decide +kernel
theorem dX12_starts_55 : decode cX12_starts 55 = .ok (.iastore, 1) := by decide +kernel
theorem dX12_starts_56 : decode cX12_starts 56 = .ok (.iinc 1 1, 3) := by decide +kernel
theorem dX12_starts_59 : decode cX12_starts 59 = .ok (.goto (-27), 3) := by decide +kernel
theorem dX12_starts_62 : decode cX12_starts 62 = .ok (.aload_n 0, 1) := by decide +kernel
theorem dX12_starts_63 : decode cX12_starts 63 = .ok (.getfield 27, 3) := by decide +kernel
theorem dX12_starts_66 : decode cX12_starts 66 = .ok (.iconst 1, 1) := by decide +kernel
theorem dX12_starts_67 : decode cX12_starts 67 = .ok (.iconst 1, 1) := by decide +kernel
theorem dX12_starts_68 : decode cX12_starts 68 = .ok (.aload_n 0, 1) := by decide +kernel
theorem dX12_starts_69 : decode cX12_starts 69 = .ok (.invokevirtual 256, 3) := by decide +kernel
theorem dX12_starts_72 : decode cX12_starts 72 = .ok (.ishl, 1) := by decide +kernel
theorem dX12_starts_73 : decode cX12_starts 73 = .ok (.iconst 1, 1) := by decide +kernel
theorem dX12_starts_74 : decode cX12_starts 74 = .ok (.isub, 1) := by decide +kernel
theorem dX12_starts_75 : decode cX12_starts 75 = .ok (.iastore, 1) := by decide +kernel
theorem dX12_starts_76 : decode cX12_starts 76 = .ok (.iconst 0, 1) := by decide +kernel
theorem dX12_starts_77 : decode cX12_starts 77 = .ok (.istore_n 1, 1) := by decide +kernel
theorem dX12_starts_78 : decode cX12_starts 78 = .ok (.iload_n 1, 1) := by decide +kernel
theorem dX12_starts_79 : decode cX12_starts 79 = .ok (.aload_n 0, 1) := by decide +kernel
theorem dX12_starts_80 : decode cX12_starts 80 = .ok (.invokevirtual 253, 3) := by decide +kernel
theorem dX12_starts_83 : decode cX12_starts 83 = .ok (.if_icmp .ge 64, 3) := by decide +kernel
theorem dX12_starts_86 : decode cX12_starts 86 = .ok (.iconst 0, 1) := by decide +kernel
theorem dX12_starts_87 : decode cX12_starts 87 = .ok (.istore_n 2, 1) := by decide +kernel
theorem dX12_starts_88 : decode cX12_starts 88 = .ok (.iload_n 2, 1) := by decide +kernel
theorem dX12_starts_89 : decode cX12_starts 89 = .ok (.aload_n 0, 1) := by decide +kernel
theorem dX12_starts_90 : decode cX12_starts 90 = .ok (.invokevirtual 256, 3) := by decide +kernel
theorem dX12_starts_93 : decode cX12_starts 93 = .ok (.if_icmp .ge 48, 3) := by decide +kernel
theorem dX12_starts_96 : decode cX12_starts 96 = .ok (.aload_n 0, 1) := by decide +kernel
theorem dX12_starts_97 : decode cX12_starts 97 = .ok (.iload_n 1, 1) := by decide +kernel
theorem dX12_starts_98 : decode cX12_starts 98 = .ok (.iload_n 2, 1) := by decide +kernel
theorem dX12_starts_99 : decode cX12_starts 99 = .ok (.invokevirtual 287, 3) := by decide +kernel
theorem dX12_starts_102 : decode cX12_starts 102 = .ok (.ifCond .ne 6, 3) := by decide +kernel
theorem dX12_starts_105 : decode cX12_starts 105 = .ok (.goto 30, 3) := by decide +kernel
theorem dX12_starts_108 : decode cX12_starts 108 = .ok (.aload_n 0, 1) := by decide +kernel
theorem dX12_starts_109 : decode cX12_starts 109 = .ok (.iload_n 1, 1) := by decide +kernel
theorem dX12_starts_110 : decode cX12_starts 110 = .ok (.iload_n 2, 1) := by decide +kernel
theorem dX12_starts_111 : decode cX12_starts 111 = .ok (.invokevirtual 268, 3) := by decide +kernel
theorem dX12_starts_114 : decode cX12_starts 114 = .ok (.sipush 255, 3) := by decide +kernel
theorem dX12_starts_117 : decode cX12_starts 117 = .ok (.if_icmp .ne 12, 3) := by decide +kernel
theorem dX12_starts_120 : decode cX12_starts 120 = .ok (.aload_n 0, 1) := by decide +kernel
theorem dX12_starts_121 : decode cX12_starts 121 = .ok (.iload_n 1, 1) := by decide +kernel
theorem dX12_starts_122 : decode cX12_starts 122 = .ok (.iload_n 2, 1) := by decide +kernel
theorem dX12_starts_123 : decode cX12_starts 123 = .ok (.invokevirtual 290, 3) := by decide +kernel
theorem dX12_starts_126 : decode cX12_starts 126 = .ok (.goto 9, 3) := by decide +kernel
theorem dX12_starts_129 : decode cX12_starts 129 = .ok (.aload_n 0, 1) := by decide +kernel
theorem dX12_starts_130 : decode cX12_starts 130 = .ok (.iload_n 1, 1) := by decide +kernel
theorem dX12_starts_131 : decode cX12_starts 131 = .ok (.iload_n 2, 1) := by decide +kernel
theorem dX12_starts_132 : decode cX12_starts 132 = .ok (.invokevirtual 293, 3) := by decide +kernel
theorem dX12_starts_135 : decode cX12_starts 135 = .ok (.iinc 2 1, 3) := by decide +kernel
theorem dX12_starts_138 : decode cX12_starts 138 = .ok (.goto (-50), 3) := by decide +kernel
theorem dX12_starts_141 : decode cX12_starts 141 = .ok (.iinc 1 1, 3) := by decide +kernel
theorem dX12_starts_144 : decode cX12_starts 144 = .ok (.goto (-66), 3) := by decide +kernel
theorem dX12_starts_147 : decode cX12_starts 147 = .ok (.return_, 1) := by decide +kernel
theorem dX12_net_0 : decode cX12_net 0 = .ok (.aload_n 0, 1) := by decide +kernel
theorem dX12_net_1 : decode cX12_net 1 = .ok (.iconst 0, 1) := by decide +kernel
theorem dX12_net_2 : decode cX12_net 2 = .ok (.putfield 46, 3) := by decide +kernel
theorem dX12_net_5 : decode cX12_net 5 = .ok (.aload_n 0, 1) := by decide +kernel
theorem dX12_net_6 : decode cX12_net 6 = .ok (.invokevirtual 215, 3) := by decide +kernel
theorem dX12_net_9 : decode cX12_net 9 = .ok (.iconst 0, 1) := by decide +kernel
theorem dX12_net_10 : decode cX12_net 10 = .ok (.istore_n 1, 1) := by decide +kernel
theorem dX12_net_11 : decode cX12_net 11 = .ok (.iload_n 1, 1) := by decide +kernel
theorem dX12_net_12 : decode cX12_net 12 = .ok (.sipush 209, 3) := by decide +kernel
theorem dX12_net_15 : decode cX12_net 15 = .ok (.if_icmp .ge 16, 3) := by decide +kernel
theorem dX12_net_18 : decode cX12_net 18 = .ok (.aload_n 0, 1) := by decide +kernel
theorem dX12_net_19 : decode cX12_net 19 = .ok (.getfield 21, 3) := by decide +kernel
theorem dX12_net_22 : decode cX12_net 22 = .ok (.iload_n 1, 1) := by decide +kernel
theorem dX12_net_23 : decode cX12_net 23 = .ok (.iconst 0, 1) := by decide +kernel
theorem dX12_net_24 : decode cX12_net 24 = .ok (.iastore, 1) := by decide +kernel
theorem dX12_net_25 : decode cX12_net 25 = .ok (.iinc 1 1, 3) := by decide +kernel
theorem dX12_net_28 : decode cX12_net 28 = .ok (.goto (-17), 3) := by decide +kernel
theorem dX12_net_31 : decode cX12_net 31 = .ok (.iconst 0, 1) := by decide +kernel
theorem dX12_net_32 : decode cX12_net 32 = .ok (.istore_n 1, 1) := by decide +kernel
theorem dX12_net_33 : decode cX12_net 33 = .ok (.aload_n 0, 1) := by decide +kernel
theorem dX12_net_34 : decode cX12_net 34 = .ok (.invokevirtual 110, 3) := by decide +kernel
theorem dX12_net_37 : decode cX12_net 37 = .ok (.ifCond .eq 55, 3) := by decide +kernel
theorem dX12_net_40 : decode cX12_net 40 = .ok (.aload_n 0, 1) := by decide +kernel
theorem dX12_net_41 : decode cX12_net 41 = .ok (.invokevirtual 114, 3) := by decide +kernel
theorem dX12_net_44 : decode cX12_net 44 = .ok (.ifCond .ne 48, 3) := by decide +kernel
theorem dX12_net_47 : decode cX12_net 47 = .ok (.iload_n 1, 1) := by decide +kernel
theorem dX12_net_48 : decode cX12_net 48 = .ok (.bipush 60, 2) := by decide +kernel
theorem dX12_net_50 : decode cX12_net 50 = .ok (.if_icmp .ne 25, 3) := by decide +kernel
theorem dX12_net_53 : decode cX12_net 53 = .ok (.aload_n 0, 1) := by decide +kernel
theorem dX12_net_54 : decode cX12_net 54 = .ok (.aload_n 0, 1) := by decide +kernel
theorem dX12_net_55 : decode cX12_net 55 = .ok (.invokevirtual 197, 3) := by decide +kernel
theorem dX12_net_58 : decode cX12_net 58 = .ok (.iconst (-1), 1) := by decide +kernel
theorem dX12_net_59 : decode cX12_net 59 = .ok (.if_icmp .ne 7, 3) := by decide +kernel
theorem dX12_net_62 : decode cX12_net 62 = .ok (.iconst 1, 1) := by decide +kernel
theorem dX12_net_63 : decode cX12_net 63 = .ok (.goto 5, 3) := by decide +kernel
theorem dX12_net_66 : decode cX12_net 66 = .ok (.bipush 6, 2) := by decide +kernel
theorem dX12_net_68 : decode cX12_net 68 = .ok (.aload_n 0, 1) := by decide +kernel
theorem dX12_net_69 : decode cX12_net 69 = .ok (.invokevirtual 102, 3) := by decide +kernel
theorem dX12_net_72 : decode cX12_net 72 = .ok (.invokevirtual 106, 3) := by decide +kernel
theorem dX12_net_75 : decode cX12_net 75 = .ok (.aload_n 0, 1) := by decide +kernel
theorem dX12_net_76 : decode cX12_net 76 = .ok (.invokevirtual 110, 3) := by decide +kernel
theorem dX12_net_79 : decode cX12_net 79 = .ok (.ifCond .eq 7, 3) := by decide +kernel
theorem dX12_net_82 : decode cX12_net 82 = .ok (.aload_n 0, 1) := by decide +kernel
theorem dX12_net_83 : decode cX12_net 83 = .ok (.invokevirtual 218, 3) := by decide +kernel
theorem dX12_net_86 : decode cX12_net 86 = .ok (.iinc 1 1, 3) := by decide +kernel
theorem dX12_net_89 : decode cX12_net 89 = .ok (.goto (-56), 3) := by decide +kernel
theorem dX12_net_92 : decode cX12_net 92 = .ok (.aload_n 0, 1) := by decide +kernel
theorem dX12_net_93 : decode cX12_net 93 = .ok (.invokevirtual 221, 3) := by decide +kernel
theorem dX12_net_96 : decode cX12_net 96 = .ok (.ifCond .ne 5, 3) := by decide +kernel
theorem dX12_net_99 : decode cX12_net 99 = .ok (.iconst (-1), 1) := by decide +kernel
theorem dX12_net_100 : decode cX12_net 100 = .ok (.ireturn, 1) := by decide +kernel
theorem dX12_net_101 : decode cX12_net 101 = .ok (.iconst 0, 1) := by decide +kernel
theorem dX12_net_102 : decode cX12_net 102 = .ok (.istore_n 1, 1) := by decide +kernel
theorem dX12_net_103 : decode cX12_net 103 = .ok (.iload_n 1, 1) := by decide +kernel
theorem dX12_net_104 : decode cX12_net 104 = .ok (.sipush 209, 3) := by decide +kernel
theorem dX12_net_107 : decode cX12_net 107 = .ok (.if_icmp .ge 21, 3) := by decide +kernel
theorem dX12_net_110 : decode cX12_net 110 = .ok (.aload_n 0, 1) := by decide +kernel
theorem dX12_net_111 : decode cX12_net 111 = .ok (.getfield 17, 3) := by decide +kernel
theorem dX12_net_114 : decode cX12_net 114 = .ok (.iload_n 1, 1) := by decide +kernel
theorem dX12_net_115 : decode cX12_net 115 = .ok (.aload_n 0, 1) := by decide +kernel
theorem dX12_net_116 : decode cX12_net 116 = .ok (.getfield 21, 3) := by decide +kernel
theorem dX12_net_119 : decode cX12_net 119 = .ok (.iload_n 1, 1) := by decide +kernel
theorem dX12_net_120 : decode cX12_net 120 = .ok (.iaload, 1) := by decide +kernel
theorem dX12_net_121 : decode cX12_net 121 = .ok (.iastore, 1) := by decide +kernel
theorem dX12_net_122 : decode cX12_net 122 = .ok (.iinc 1 1, 3) := by decide +kernel
theorem dX12_net_125 : decode cX12_net 125 = .ok (.goto (-22), 3) := by decide +kernel
theorem dX12_net_128 : decode cX12_net 128 = .ok (.aload_n 0, 1) := by decide +kernel
theorem dX12_net_129 : decode cX12_net 129 = .ok (.iconst 1, 1) := by decide +kernel
theorem dX12_net_130 : decode cX12_net 130 = .ok (.putfield 224, 3) := by decide +kernel
theorem dX12_net_133 : decode cX12_net 133 = .ok (.aload_n 0, 1) := by decide +kernel
theorem dX12_net_134 : decode cX12_net 134 = .ok (.iconst 0, 1) := by decide +kernel
theorem dX12_net_135 : decode cX12_net 135 = .ok (.putfield 228, 3) := by decide +kernel
theorem dX12_net_138 : decode cX12_net 138 = .ok (.aload_n 0, 1) := by decide +kernel
theorem dX12_net_139 : decode cX12_net 139 = .ok (.getfield 33, 3) := by decide +kernel
theorem dX12_net_142 : decode cX12_net 142 = .ok (.iconst 0, 1) := by decide +kernel
theorem dX12_net_143 : decode cX12_net 143 = .ok (.iconst 0, 1) := by decide +kernel
theorem dX12_net_144 : decode cX12_net 144 = .ok (.bastore, 1) := by decide +kernel
theorem dX12_net_145 : decode cX12_net 145 = .ok (.aload_n 0, 1) := by decide +kernel
theorem dX12_net_146 : decode cX12_net 146 = .ok (.getfield 33, 3) := by decide +kernel
theorem dX12_net_149 : decode cX12_net 149 = .ok (.iconst 1, 1) := by decide +kernel
theorem dX12_net_150 : decode cX12_net 150 = .ok (.iconst 0, 1) := by decide +kernel
theorem dX12_net_151 : decode cX12_net 151 = .ok (.bastore, 1) := by decide +kernel
theorem dX12_net_152 : decode cX12_net 152 = .ok (.aload_n 0, 1) := by decide +kernel
theorem dX12_net_153 : decode cX12_net 153 = .ok (.invokevirtual 231, 3) := by decide +kernel
theorem dX12_net_156 : decode cX12_net 156 = .ok (.aload_n 0, 1) := by decide +kernel
theorem dX12_net_157 : decode cX12_net 157 = .ok (.getfield 17, 3) := by decide +kernel
theorem dX12_net_160 : decode cX12_net 160 = .ok (.iconst 2, 1) := by decide +kernel
theorem dX12_net_161 : decode cX12_net 161 = .ok (.iaload, 1) := by decide +kernel
theorem dX12_net_162 : decode cX12_net 162 = .ok (.ireturn, 1) := by decide +kernel
theorem dX12_fault_0 : decode cX12_fault 0 = .ok (.aload_n 0, 1) := by decide +kernel
theorem dX12_fault_1 : decode cX12_fault 1 = .ok (.iconst 0, 1) := by decide +kernel
theorem dX12_fault_2 : decode cX12_fault 2 = .ok (.putfield 46, 3) := by decide +kernel
theorem dX12_fault_5 : decode cX12_fault 5 = .ok (.iload_n 1, 1) := by decide +kernel
theorem dX12_fault_6 : decode cX12_fault 6 = .ok (.ifCond .ne 10, 3) := by decide +kernel
theorem dX12_fault_9 : decode cX12_fault 9 = .ok (.aload_n 0, 1) := by decide +kernel
theorem dX12_fault_10 : decode cX12_fault 10 = .ok (.getfield 91, 3) := by decide +kernel
theorem dX12_fault_13 : decode cX12_fault 13 = .ok (.goto 16, 3) := by decide +kernel
theorem dX12_fault_16 : decode cX12_fault 16 = .ok (.iload_n 1, 1) := by decide +kernel
theorem dX12_fault_17 : decode cX12_fault 17 = .ok (.iconst 1, 1) := by decide +kernel
theorem dX12_fault_18 : decode cX12_fault 18 = .ok (.if_icmp .ne 10, 3) := by decide +kernel
theorem dX12_fault_21 : decode cX12_fault 21 = .ok (.aload_n 0, 1) := by decide +kernel
theorem dX12_fault_22 : decode cX12_fault 22 = .ok (.getfield 13, 3) := by decide +kernel
theorem dX12_fault_25 : decode cX12_fault 25 = .ok (.goto 4, 3) := by decide +kernel
theorem dX12_fault_28 : decode cX12_fault 28 = .ok (.iconst (-1), 1) := by decide +kernel
theorem dX12_fault_29 : decode cX12_fault 29 = .ok (.ireturn, 1) := by decide +kernel
theorem dX12_laysEvent_0 : decode cX12_laysEvent 0 = .ok (.aload_n 0, 1) := by decide +kernel
theorem dX12_laysEvent_1 : decode cX12_laysEvent 1 = .ok (.invokevirtual 110, 3) := by decide +kernel
theorem dX12_laysEvent_4 : decode cX12_laysEvent 4 = .ok (.ifCond .ne 4, 3) := by decide +kernel
theorem dX12_laysEvent_7 : decode cX12_laysEvent 7 = .ok (.return_, 1) := by decide +kernel
theorem dX12_laysEvent_8 : decode cX12_laysEvent 8 = .ok (.aload_n 0, 1) := by decide +kernel
theorem dX12_laysEvent_9 : decode cX12_laysEvent 9 = .ok (.getfield 24, 3) := by decide +kernel
theorem dX12_laysEvent_12 : decode cX12_laysEvent 12 = .ok (.iconst 5, 1) := by decide +kernel
theorem dX12_laysEvent_13 : decode cX12_laysEvent 13 = .ok (.iload_n 1, 1) := by decide +kernel
theorem dX12_laysEvent_14 : decode cX12_laysEvent 14 = .ok (.imul, 1) := by decide +kernel
theorem dX12_laysEvent_15 : decode cX12_laysEvent 15 = .ok (.iconst 1, 1) := by decide +kernel
theorem dX12_laysEvent_16 : decode cX12_laysEvent 16 = .ok (.iadd, 1) := by decide +kernel
theorem dX12_laysEvent_17 : decode cX12_laysEvent 17 = .ok (.iload_n 2, 1) := by decide +kernel
theorem dX12_laysEvent_18 : decode cX12_laysEvent 18 = .ok (.iastore, 1) := by decide +kernel
theorem dX12_laysEvent_19 : decode cX12_laysEvent 19 = .ok (.aload_n 0, 1) := by decide +kernel
theorem dX12_laysEvent_20 : decode cX12_laysEvent 20 = .ok (.getfield 24, 3) := by decide +kernel
theorem dX12_laysEvent_23 : decode cX12_laysEvent 23 = .ok (.iconst 5, 1) := by decide +kernel
theorem dX12_laysEvent_24 : decode cX12_laysEvent 24 = .ok (.iload_n 1, 1) := by decide +kernel
theorem dX12_laysEvent_25 : decode cX12_laysEvent 25 = .ok (.imul, 1) := by decide +kernel
theorem dX12_laysEvent_26 : decode cX12_laysEvent 26 = .ok (.iconst 2, 1) := by decide +kernel
theorem dX12_laysEvent_27 : decode cX12_laysEvent 27 = .ok (.iadd, 1) := by decide +kernel
theorem dX12_laysEvent_28 : decode cX12_laysEvent 28 = .ok (.iload_n 3, 1) := by decide +kernel
theorem dX12_laysEvent_29 : decode cX12_laysEvent 29 = .ok (.iastore, 1) := by decide +kernel
theorem dX12_laysEvent_30 : decode cX12_laysEvent 30 = .ok (.aload_n 0, 1) := by decide +kernel
theorem dX12_laysEvent_31 : decode cX12_laysEvent 31 = .ok (.getfield 24, 3) := by decide +kernel
theorem dX12_laysEvent_34 : decode cX12_laysEvent 34 = .ok (.iconst 5, 1) := by decide +kernel
theorem dX12_laysEvent_35 : decode cX12_laysEvent 35 = .ok (.iload_n 1, 1) := by decide +kernel
theorem dX12_laysEvent_36 : decode cX12_laysEvent 36 = .ok (.imul, 1) := by decide +kernel
theorem dX12_laysEvent_37 : decode cX12_laysEvent 37 = .ok (.iconst 3, 1) := by decide +kernel
theorem dX12_laysEvent_38 : decode cX12_laysEvent 38 = .ok (.iadd, 1) := by decide +kernel
theorem dX12_laysEvent_39 : decode cX12_laysEvent 39 = .ok (.iload 4, 2) := by decide +kernel
theorem dX12_laysEvent_41 : decode cX12_laysEvent 41 = .ok (.iastore, 1) := by decide +kernel
theorem dX12_laysEvent_42 : decode cX12_laysEvent 42 = .ok (.aload_n 0, 1) := by decide +kernel
theorem dX12_laysEvent_43 : decode cX12_laysEvent 43 = .ok (.getfield 24, 3) := by decide +kernel
theorem dX12_laysEvent_46 : decode cX12_laysEvent 46 = .ok (.iconst 5, 1) := by decide +kernel
theorem dX12_laysEvent_47 : decode cX12_laysEvent 47 = .ok (.iload_n 1, 1) := by decide +kernel
theorem dX12_laysEvent_48 : decode cX12_laysEvent 48 = .ok (.imul, 1) := by decide +kernel
theorem dX12_laysEvent_49 : decode cX12_laysEvent 49 = .ok (.iconst 4, 1) := by decide +kernel
theorem dX12_laysEvent_50 : decode cX12_laysEvent 50 = .ok (.iadd, 1) := by decide +kernel
theorem dX12_laysEvent_51 : decode cX12_laysEvent 51 = .ok (.iload 5, 2) := by decide +kernel
theorem dX12_laysEvent_53 : decode cX12_laysEvent 53 = .ok (.iastore, 1) := by decide +kernel
theorem dX12_laysEvent_54 : decode cX12_laysEvent 54 = .ok (.return_, 1) := by decide +kernel
theorem dX12_splitRead_0 : decode cX12_splitRead 0 = .ok (.iconst 0, 1) := by decide +kernel
theorem dX12_splitRead_1 : decode cX12_splitRead 1 = .ok (.istore_n 2, 1) := by decide +kernel
theorem dX12_splitRead_2 : decode cX12_splitRead 2 = .ok (.iconst 1, 1) := by decide +kernel
theorem dX12_splitRead_3 : decode cX12_splitRead 3 = .ok (.istore_n 3, 1) := by decide +kernel
theorem dX12_splitRead_4 : decode cX12_splitRead 4 = .ok (.aload_n 0, 1) := by decide +kernel
theorem dX12_splitRead_5 : decode cX12_splitRead 5 = .ok (.invokevirtual 110, 3) := by decide +kernel
theorem dX12_splitRead_8 : decode cX12_splitRead 8 = .ok (.ifCond .eq 80, 3) := by decide +kernel
theorem dX12_splitRead_11 : decode cX12_splitRead 11 = .ok (.iload_n 3, 1) := by decide +kernel
theorem dX12_splitRead_12 : decode cX12_splitRead 12 = .ok (.ifCond .eq 76, 3) := by decide +kernel
theorem dX12_splitRead_15 : decode cX12_splitRead 15 = .ok (.aload_n 0, 1) := by decide +kernel
theorem dX12_splitRead_16 : decode cX12_splitRead 16 = .ok (.aload_n 0, 1) := by decide +kernel
theorem dX12_splitRead_17 : decode cX12_splitRead 17 = .ok (.getfield 17, 3) := by decide +kernel
theorem dX12_splitRead_20 : decode cX12_splitRead 20 = .ok (.iconst 0, 1) := by decide +kernel
theorem dX12_splitRead_21 : decode cX12_splitRead 21 = .ok (.invokevirtual 182, 3) := by decide +kernel
theorem dX12_splitRead_24 : decode cX12_splitRead 24 = .ok (.istore 4, 2) := by decide +kernel
theorem dX12_splitRead_26 : decode cX12_splitRead 26 = .ok (.aload_n 0, 1) := by decide +kernel
theorem dX12_splitRead_27 : decode cX12_splitRead 27 = .ok (.invokevirtual 110, 3) := by decide +kernel
theorem dX12_splitRead_30 : decode cX12_splitRead 30 = .ok (.ifCond .eq 21, 3) := by decide +kernel
theorem dX12_splitRead_33 : decode cX12_splitRead 33 = .ok (.iload_n 2, 1) := by decide +kernel
theorem dX12_splitRead_34 : decode cX12_splitRead 34 = .ok (.iload 4, 2) := by decide +kernel
theorem dX12_splitRead_36 : decode cX12_splitRead 36 = .ok (.invokestatic 186, 3) := by decide +kernel
theorem dX12_splitRead_39 : decode cX12_splitRead 39 = .ok (.ifCond .eq 12, 3) := by decide +kernel
theorem dX12_splitRead_42 : decode cX12_splitRead 42 = .ok (.aload_n 0, 1) := by decide +kernel
theorem dX12_splitRead_43 : decode cX12_splitRead 43 = .ok (.iconst 5, 1) := by decide +kernel
theorem dX12_splitRead_44 : decode cX12_splitRead 44 = .ok (.aload_n 0, 1) := by decide +kernel
theorem dX12_splitRead_45 : decode cX12_splitRead 45 = .ok (.getfield 165, 3) := by decide +kernel
theorem dX12_splitRead_48 : decode cX12_splitRead 48 = .ok (.invokevirtual 106, 3) := by decide +kernel
theorem dX12_splitRead_51 : decode cX12_splitRead 51 = .ok (.aload_n 0, 1) := by decide +kernel
theorem dX12_splitRead_52 : decode cX12_splitRead 52 = .ok (.invokevirtual 110, 3) := by decide +kernel
theorem dX12_splitRead_55 : decode cX12_splitRead 55 = .ok (.ifCond .eq 10, 3) := by decide +kernel
theorem dX12_splitRead_58 : decode cX12_splitRead 58 = .ok (.iload_n 2, 1) := by decide +kernel
theorem dX12_splitRead_59 : decode cX12_splitRead 59 = .ok (.iconst 1, 1) := by decide +kernel
theorem dX12_splitRead_60 : decode cX12_splitRead 60 = .ok (.iload 4, 2) := by decide +kernel
theorem dX12_splitRead_62 : decode cX12_splitRead 62 = .ok (.ishl, 1) := by decide +kernel
theorem dX12_splitRead_63 : decode cX12_splitRead 63 = .ok (.ior, 1) := by decide +kernel
theorem dX12_splitRead_64 : decode cX12_splitRead 64 = .ok (.istore_n 2, 1) := by decide +kernel
theorem dX12_splitRead_65 : decode cX12_splitRead 65 = .ok (.aload_n 0, 1) := by decide +kernel
theorem dX12_splitRead_66 : decode cX12_splitRead 66 = .ok (.invokevirtual 110, 3) := by decide +kernel
theorem dX12_splitRead_69 : decode cX12_splitRead 69 = .ok (.ifCond .eq 14, 3) := by decide +kernel
theorem dX12_splitRead_72 : decode cX12_splitRead 72 = .ok (.aload_n 0, 1) := by decide +kernel
theorem dX12_splitRead_73 : decode cX12_splitRead 73 = .ok (.invokevirtual 158, 3) := by decide +kernel
theorem dX12_splitRead_76 : decode cX12_splitRead 76 = .ok (.ifCond .eq 7, 3) := by decide +kernel
theorem dX12_splitRead_79 : decode cX12_splitRead 79 = .ok (.iconst 1, 1) := by decide +kernel
theorem dX12_splitRead_80 : decode cX12_splitRead 80 = .ok (.goto 4, 3) := by decide +kernel
theorem dX12_splitRead_83 : decode cX12_splitRead 83 = .ok (.iconst 0, 1) := by decide +kernel
theorem dX12_splitRead_84 : decode cX12_splitRead 84 = .ok (.istore_n 3, 1) := by decide +kernel
theorem dX12_splitRead_85 : decode cX12_splitRead 85 = .ok (.goto (-81), 3) := by decide +kernel
theorem dX12_splitRead_88 : decode cX12_splitRead 88 = .ok (.aload_n 0, 1) := by decide +kernel
theorem dX12_splitRead_89 : decode cX12_splitRead 89 = .ok (.iload_n 1, 1) := by decide +kernel
theorem dX12_splitRead_90 : decode cX12_splitRead 90 = .ok (.iconst 4, 1) := by decide +kernel
theorem dX12_splitRead_91 : decode cX12_splitRead 91 = .ok (.iload_n 2, 1) := by decide +kernel
theorem dX12_splitRead_92 : decode cX12_splitRead 92 = .ok (.iconst (-1), 1) := by decide +kernel
theorem dX12_splitRead_93 : decode cX12_splitRead 93 = .ok (.iconst (-1), 1) := by decide +kernel
theorem dX12_splitRead_94 : decode cX12_splitRead 94 = .ok (.invokevirtual 234, 3) := by decide +kernel
theorem dX12_splitRead_97 : decode cX12_splitRead 97 = .ok (.return_, 1) := by decide +kernel
theorem dX12_wordRead_0 : decode cX12_wordRead 0 = .ok (.aload_n 0, 1) := by decide +kernel
theorem dX12_wordRead_1 : decode cX12_wordRead 1 = .ok (.aload_n 0, 1) := by decide +kernel
theorem dX12_wordRead_2 : decode cX12_wordRead 2 = .ok (.getfield 17, 3) := by decide +kernel
theorem dX12_wordRead_5 : decode cX12_wordRead 5 = .ok (.iconst 0, 1) := by decide +kernel
theorem dX12_wordRead_6 : decode cX12_wordRead 6 = .ok (.invokevirtual 182, 3) := by decide +kernel
theorem dX12_wordRead_9 : decode cX12_wordRead 9 = .ok (.istore_n 2, 1) := by decide +kernel
theorem dX12_wordRead_10 : decode cX12_wordRead 10 = .ok (.aload_n 0, 1) := by decide +kernel
theorem dX12_wordRead_11 : decode cX12_wordRead 11 = .ok (.sipush 486, 3) := by decide +kernel
theorem dX12_wordRead_14 : decode cX12_wordRead 14 = .ok (.invokevirtual 171, 3) := by decide +kernel
theorem dX12_wordRead_17 : decode cX12_wordRead 17 = .ok (.aload_n 0, 1) := by decide +kernel
theorem dX12_wordRead_18 : decode cX12_wordRead 18 = .ok (.aload_n 0, 1) := by decide +kernel
theorem dX12_wordRead_19 : decode cX12_wordRead 19 = .ok (.getfield 17, 3) := by decide +kernel
theorem dX12_wordRead_22 : decode cX12_wordRead 22 = .ok (.iconst 2, 1) := by decide +kernel
theorem dX12_wordRead_23 : decode cX12_wordRead 23 = .ok (.invokevirtual 182, 3) := by decide +kernel
theorem dX12_wordRead_26 : decode cX12_wordRead 26 = .ok (.istore_n 3, 1) := by decide +kernel
theorem dX12_wordRead_27 : decode cX12_wordRead 27 = .ok (.aload_n 0, 1) := by decide +kernel
theorem dX12_wordRead_28 : decode cX12_wordRead 28 = .ok (.invokevirtual 110, 3) := by decide +kernel
theorem dX12_wordRead_31 : decode cX12_wordRead 31 = .ok (.ifCond .eq 28, 3) := by decide +kernel
theorem dX12_wordRead_34 : decode cX12_wordRead 34 = .ok (.aload_n 0, 1) := by decide +kernel
theorem dX12_wordRead_35 : decode cX12_wordRead 35 = .ok (.getfield 17, 3) := by decide +kernel
theorem dX12_wordRead_38 : decode cX12_wordRead 38 = .ok (.bipush 48, 2) := by decide +kernel
theorem dX12_wordRead_40 : decode cX12_wordRead 40 = .ok (.iload_n 3, 1) := by decide +kernel
theorem dX12_wordRead_41 : decode cX12_wordRead 41 = .ok (.iadd, 1) := by decide +kernel
theorem dX12_wordRead_42 : decode cX12_wordRead 42 = .ok (.iaload, 1) := by decide +kernel
theorem dX12_wordRead_43 : decode cX12_wordRead 43 = .ok (.iload_n 2, 1) := by decide +kernel
theorem dX12_wordRead_44 : decode cX12_wordRead 44 = .ok (.invokestatic 186, 3) := by decide +kernel
theorem dX12_wordRead_47 : decode cX12_wordRead 47 = .ok (.ifCond .ne 12, 3) := by decide +kernel
theorem dX12_wordRead_50 : decode cX12_wordRead 50 = .ok (.aload_n 0, 1) := by decide +kernel
theorem dX12_wordRead_51 : decode cX12_wordRead 51 = .ok (.iconst 5, 1) := by decide +kernel
theorem dX12_wordRead_52 : decode cX12_wordRead 52 = .ok (.aload_n 0, 1) := by decide +kernel
theorem dX12_wordRead_53 : decode cX12_wordRead 53 = .ok (.getfield 165, 3) := by decide +kernel
theorem dX12_wordRead_56 : decode cX12_wordRead 56 = .ok (.invokevirtual 106, 3) := by decide +kernel
theorem dX12_wordRead_59 : decode cX12_wordRead 59 = .ok (.aload_n 0, 1) := by decide +kernel
theorem dX12_wordRead_60 : decode cX12_wordRead 60 = .ok (.iconst 1, 1) := by decide +kernel
theorem dX12_wordRead_61 : decode cX12_wordRead 61 = .ok (.sipush 255, 3) := by decide +kernel
theorem dX12_wordRead_64 : decode cX12_wordRead 64 = .ok (.invokevirtual 174, 3) := by decide +kernel
theorem dX12_wordRead_67 : decode cX12_wordRead 67 = .ok (.istore 4, 2) := by decide +kernel
theorem dX12_wordRead_69 : decode cX12_wordRead 69 = .ok (.aload_n 0, 1) := by decide +kernel
theorem dX12_wordRead_70 : decode cX12_wordRead 70 = .ok (.iload_n 1, 1) := by decide +kernel
theorem dX12_wordRead_71 : decode cX12_wordRead 71 = .ok (.bipush 6, 2) := by decide +kernel
theorem dX12_wordRead_73 : decode cX12_wordRead 73 = .ok (.iload_n 2, 1) := by decide +kernel
theorem dX12_wordRead_74 : decode cX12_wordRead 74 = .ok (.iload_n 3, 1) := by decide +kernel
theorem dX12_wordRead_75 : decode cX12_wordRead 75 = .ok (.iload 4, 2) := by decide +kernel
theorem dX12_wordRead_77 : decode cX12_wordRead 77 = .ok (.invokevirtual 234, 3) := by decide +kernel
theorem dX12_wordRead_80 : decode cX12_wordRead 80 = .ok (.return_, 1) := by decide +kernel
theorem dX12_eventRead_0 : decode cX12_eventRead 0 = .ok (.aload_n 0, 1) := by decide +kernel
theorem dX12_eventRead_1 : decode cX12_eventRead 1 = .ok (.bipush 52, 2) := by decide +kernel
theorem dX12_eventRead_3 : decode cX12_eventRead 3 = .ok (.invokevirtual 136, 3) := by decide +kernel
theorem dX12_eventRead_6 : decode cX12_eventRead 6 = .ok (.ifCond .ne 7, 3) := by decide +kernel
theorem dX12_eventRead_9 : decode cX12_eventRead 9 = .ok (.aload_n 0, 1) := by decide +kernel
theorem dX12_eventRead_10 : decode cX12_eventRead 10 = .ok (.invokevirtual 121, 3) := by decide +kernel
theorem dX12_eventRead_13 : decode cX12_eventRead 13 = .ok (.iload_n 1, 1) := by decide +kernel
theorem dX12_eventRead_14 : decode cX12_eventRead 14 = .ok (.bipush 20, 2) := by decide +kernel
theorem dX12_eventRead_16 : decode cX12_eventRead 16 = .ok (.if_icmp .ne 13, 3) := by decide +kernel
theorem dX12_eventRead_19 : decode cX12_eventRead 19 = .ok (.aload_n 0, 1) := by decide +kernel
theorem dX12_eventRead_20 : decode cX12_eventRead 20 = .ok (.bipush 6, 2) := by decide +kernel
theorem dX12_eventRead_22 : decode cX12_eventRead 22 = .ok (.aload_n 0, 1) := by decide +kernel
theorem dX12_eventRead_23 : decode cX12_eventRead 23 = .ok (.invokevirtual 102, 3) := by decide +kernel
theorem dX12_eventRead_26 : decode cX12_eventRead 26 = .ok (.invokevirtual 106, 3) := by decide +kernel
theorem dX12_eventRead_29 : decode cX12_eventRead 29 = .ok (.aload_n 0, 1) := by decide +kernel
theorem dX12_eventRead_30 : decode cX12_eventRead 30 = .ok (.invokevirtual 110, 3) := by decide +kernel
theorem dX12_eventRead_33 : decode cX12_eventRead 33 = .ok (.ifCond .ne 4, 3) := by decide +kernel
theorem dX12_eventRead_36 : decode cX12_eventRead 36 = .ok (.return_, 1) := by decide +kernel
theorem dX12_eventRead_37 : decode cX12_eventRead 37 = .ok (.aload_n 0, 1) := by decide +kernel
theorem dX12_eventRead_38 : decode cX12_eventRead 38 = .ok (.invokevirtual 139, 3) := by decide +kernel
theorem dX12_eventRead_41 : decode cX12_eventRead 41 = .ok (.aload_n 0, 1) := by decide +kernel
theorem dX12_eventRead_42 : decode cX12_eventRead 42 = .ok (.iconst 0, 1) := by decide +kernel
theorem dX12_eventRead_43 : decode cX12_eventRead 43 = .ok (.sipush 9999, 3) := by decide +kernel
theorem dX12_eventRead_46 : decode cX12_eventRead 46 = .ok (.invokevirtual 174, 3) := by decide +kernel
theorem dX12_eventRead_49 : decode cX12_eventRead 49 = .ok (.istore_n 2, 1) := by decide +kernel
theorem dX12_eventRead_50 : decode cX12_eventRead 50 = .ok (.aload_n 0, 1) := by decide +kernel
theorem dX12_eventRead_51 : decode cX12_eventRead 51 = .ok (.invokevirtual 110, 3) := by decide +kernel
theorem dX12_eventRead_54 : decode cX12_eventRead 54 = .ok (.ifCond .eq 30, 3) := by decide +kernel
theorem dX12_eventRead_57 : decode cX12_eventRead 57 = .ok (.iload_n 1, 1) := by decide +kernel
theorem dX12_eventRead_58 : decode cX12_eventRead 58 = .ok (.ifCond .le 26, 3) := by decide +kernel
theorem dX12_eventRead_61 : decode cX12_eventRead 61 = .ok (.iload_n 2, 1) := by decide +kernel
theorem dX12_eventRead_62 : decode cX12_eventRead 62 = .ok (.aload_n 0, 1) := by decide +kernel
theorem dX12_eventRead_63 : decode cX12_eventRead 63 = .ok (.getfield 24, 3) := by decide +kernel
theorem dX12_eventRead_66 : decode cX12_eventRead 66 = .ok (.iconst 5, 1) := by decide +kernel
theorem dX12_eventRead_67 : decode cX12_eventRead 67 = .ok (.iload_n 1, 1) := by decide +kernel
theorem dX12_eventRead_68 : decode cX12_eventRead 68 = .ok (.imul, 1) := by decide +kernel
theorem dX12_eventRead_69 : decode cX12_eventRead 69 = .ok (.iconst 5, 1) := by decide +kernel
theorem dX12_eventRead_70 : decode cX12_eventRead 70 = .ok (.isub, 1) := by decide +kernel
theorem dX12_eventRead_71 : decode cX12_eventRead 71 = .ok (.iaload, 1) := by decide +kernel
theorem dX12_eventRead_72 : decode cX12_eventRead 72 = .ok (.if_icmp .ge 12, 3) := by decide +kernel
theorem dX12_eventRead_75 : decode cX12_eventRead 75 = .ok (.aload_n 0, 1) := by decide +kernel
theorem dX12_eventRead_76 : decode cX12_eventRead 76 = .ok (.iconst 4, 1) := by decide +kernel
theorem dX12_eventRead_77 : decode cX12_eventRead 77 = .ok (.aload_n 0, 1) := by decide +kernel
theorem dX12_eventRead_78 : decode cX12_eventRead 78 = .ok (.getfield 148, 3) := by decide +kernel
theorem dX12_eventRead_81 : decode cX12_eventRead 81 = .ok (.invokevirtual 106, 3) := by decide +kernel
theorem dX12_eventRead_84 : decode cX12_eventRead 84 = .ok (.aload_n 0, 1) := by decide +kernel
theorem dX12_eventRead_85 : decode cX12_eventRead 85 = .ok (.invokevirtual 110, 3) := by decide +kernel
theorem dX12_eventRead_88 : decode cX12_eventRead 88 = .ok (.ifCond .eq 12, 3) := by decide +kernel
theorem dX12_eventRead_91 : decode cX12_eventRead 91 = .ok (.aload_n 0, 1) := by decide +kernel
theorem dX12_eventRead_92 : decode cX12_eventRead 92 = .ok (.getfield 24, 3) := by decide +kernel
theorem dX12_eventRead_95 : decode cX12_eventRead 95 = .ok (.iconst 5, 1) := by decide +kernel
theorem dX12_eventRead_96 : decode cX12_eventRead 96 = .ok (.iload_n 1, 1) := by decide +kernel
theorem dX12_eventRead_97 : decode cX12_eventRead 97 = .ok (.imul, 1) := by decide +kernel
theorem dX12_eventRead_98 : decode cX12_eventRead 98 = .ok (.iload_n 2, 1) := by decide +kernel
theorem dX12_eventRead_99 : decode cX12_eventRead 99 = .ok (.iastore, 1) := by decide +kernel
theorem dX12_eventRead_100 : decode cX12_eventRead 100 = .ok (.aload_n 0, 1) := by decide +kernel
theorem dX12_eventRead_101 : decode cX12_eventRead 101 = .ok (.sipush 688, 3) := by decide +kernel
theorem dX12_eventRead_104 : decode cX12_eventRead 104 = .ok (.invokevirtual 142, 3) := by decide +kernel
theorem dX12_eventRead_107 : decode cX12_eventRead 107 = .ok (.ifCond .eq 23, 3) := by decide +kernel
theorem dX12_eventRead_110 : decode cX12_eventRead 110 = .ok (.aload_n 0, 1) := by decide +kernel
theorem dX12_eventRead_111 : decode cX12_eventRead 111 = .ok (.iload_n 1, 1) := by decide +kernel
theorem dX12_eventRead_112 : decode cX12_eventRead 112 = .ok (.iconst 0, 1) := by decide +kernel
theorem dX12_eventRead_113 : decode cX12_eventRead 113 = .ok (.aload_n 0, 1) := by decide +kernel
theorem dX12_eventRead_114 : decode cX12_eventRead 114 = .ok (.aload_n 0, 1) := by decide +kernel
theorem dX12_eventRead_115 : decode cX12_eventRead 115 = .ok (.getfield 17, 3) := by decide +kernel
theorem dX12_eventRead_118 : decode cX12_eventRead 118 = .ok (.iconst 0, 1) := by decide +kernel
theorem dX12_eventRead_119 : decode cX12_eventRead 119 = .ok (.invokevirtual 182, 3) := by decide +kernel
theorem dX12_eventRead_122 : decode cX12_eventRead 122 = .ok (.iconst (-1), 1) := by decide +kernel
theorem dX12_eventRead_123 : decode cX12_eventRead 123 = .ok (.iconst (-1), 1) := by decide +kernel
theorem dX12_eventRead_124 : decode cX12_eventRead 124 = .ok (.invokevirtual 234, 3) := by decide +kernel
theorem dX12_eventRead_127 : decode cX12_eventRead 127 = .ok (.goto 157, 3) := by decide +kernel
theorem dX12_eventRead_130 : decode cX12_eventRead 130 = .ok (.aload_n 0, 1) := by decide +kernel
theorem dX12_eventRead_131 : decode cX12_eventRead 131 = .ok (.ldc 72, 2) := by decide +kernel
theorem dX12_eventRead_133 : decode cX12_eventRead 133 = .ok (.invokevirtual 142, 3) := by decide +kernel
theorem dX12_eventRead_136 : decode cX12_eventRead 136 = .ok (.ifCond .eq 23, 3) := by decide +kernel
theorem dX12_eventRead_139 : decode cX12_eventRead 139 = .ok (.aload_n 0, 1) := by decide +kernel
theorem dX12_eventRead_140 : decode cX12_eventRead 140 = .ok (.iload_n 1, 1) := by decide +kernel
theorem dX12_eventRead_141 : decode cX12_eventRead 141 = .ok (.iconst 1, 1) := by decide +kernel
theorem dX12_eventRead_142 : decode cX12_eventRead 142 = .ok (.aload_n 0, 1) := by decide +kernel
theorem dX12_eventRead_143 : decode cX12_eventRead 143 = .ok (.aload_n 0, 1) := by decide +kernel
theorem dX12_eventRead_144 : decode cX12_eventRead 144 = .ok (.getfield 17, 3) := by decide +kernel
theorem dX12_eventRead_147 : decode cX12_eventRead 147 = .ok (.iconst 0, 1) := by decide +kernel
theorem dX12_eventRead_148 : decode cX12_eventRead 148 = .ok (.invokevirtual 182, 3) := by decide +kernel
theorem dX12_eventRead_151 : decode cX12_eventRead 151 = .ok (.iconst (-1), 1) := by decide +kernel
theorem dX12_eventRead_152 : decode cX12_eventRead 152 = .ok (.iconst (-1), 1) := by decide +kernel
theorem dX12_eventRead_153 : decode cX12_eventRead 153 = .ok (.invokevirtual 234, 3) := by decide +kernel
theorem dX12_eventRead_156 : decode cX12_eventRead 156 = .ok (.goto 128, 3) := by decide +kernel
theorem dX12_eventRead_159 : decode cX12_eventRead 159 = .ok (.aload_n 0, 1) := by decide +kernel
theorem dX12_eventRead_160 : decode cX12_eventRead 160 = .ok (.sipush 3764, 3) := by decide +kernel
theorem dX12_eventRead_163 : decode cX12_eventRead 163 = .ok (.invokevirtual 142, 3) := by decide +kernel
theorem dX12_eventRead_166 : decode cX12_eventRead 166 = .ok (.ifCond .eq 23, 3) := by decide +kernel
theorem dX12_eventRead_169 : decode cX12_eventRead 169 = .ok (.aload_n 0, 1) := by decide +kernel
theorem dX12_eventRead_170 : decode cX12_eventRead 170 = .ok (.iload_n 1, 1) := by decide +kernel
theorem dX12_eventRead_171 : decode cX12_eventRead 171 = .ok (.iconst 2, 1) := by decide +kernel
theorem dX12_eventRead_172 : decode cX12_eventRead 172 = .ok (.aload_n 0, 1) := by decide +kernel
theorem dX12_eventRead_173 : decode cX12_eventRead 173 = .ok (.aload_n 0, 1) := by decide +kernel
theorem dX12_eventRead_174 : decode cX12_eventRead 174 = .ok (.getfield 17, 3) := by decide +kernel
theorem dX12_eventRead_177 : decode cX12_eventRead 177 = .ok (.iconst 1, 1) := by decide +kernel
theorem dX12_eventRead_178 : decode cX12_eventRead 178 = .ok (.invokevirtual 182, 3) := by decide +kernel
theorem dX12_eventRead_181 : decode cX12_eventRead 181 = .ok (.iconst (-1), 1) := by decide +kernel
theorem dX12_eventRead_182 : decode cX12_eventRead 182 = .ok (.iconst (-1), 1) := by decide +kernel
theorem dX12_eventRead_183 : decode cX12_eventRead 183 = .ok (.invokevirtual 234, 3) := by decide +kernel
theorem dX12_eventRead_186 : decode cX12_eventRead 186 = .ok (.goto 98, 3) := by decide +kernel
theorem dX12_eventRead_189 : decode cX12_eventRead 189 = .ok (.aload_n 0, 1) := by decide +kernel
theorem dX12_eventRead_190 : decode cX12_eventRead 190 = .ok (.ldc 73, 2) := by decide +kernel
theorem dX12_eventRead_192 : decode cX12_eventRead 192 = .ok (.invokevirtual 142, 3) := by decide +kernel
theorem dX12_eventRead_195 : decode cX12_eventRead 195 = .ok (.ifCond .eq 23, 3) := by decide +kernel
theorem dX12_eventRead_198 : decode cX12_eventRead 198 = .ok (.aload_n 0, 1) := by decide +kernel
theorem dX12_eventRead_199 : decode cX12_eventRead 199 = .ok (.iload_n 1, 1) := by decide +kernel
theorem dX12_eventRead_200 : decode cX12_eventRead 200 = .ok (.iconst 3, 1) := by decide +kernel
theorem dX12_eventRead_201 : decode cX12_eventRead 201 = .ok (.aload_n 0, 1) := by decide +kernel
theorem dX12_eventRead_202 : decode cX12_eventRead 202 = .ok (.aload_n 0, 1) := by decide +kernel
theorem dX12_eventRead_203 : decode cX12_eventRead 203 = .ok (.getfield 17, 3) := by decide +kernel
theorem dX12_eventRead_206 : decode cX12_eventRead 206 = .ok (.iconst 1, 1) := by decide +kernel
theorem dX12_eventRead_207 : decode cX12_eventRead 207 = .ok (.invokevirtual 182, 3) := by decide +kernel
theorem dX12_eventRead_210 : decode cX12_eventRead 210 = .ok (.iconst (-1), 1) := by decide +kernel
theorem dX12_eventRead_211 : decode cX12_eventRead 211 = .ok (.iconst (-1), 1) := by decide +kernel
theorem dX12_eventRead_212 : decode cX12_eventRead 212 = .ok (.invokevirtual 234, 3) := by decide +kernel
theorem dX12_eventRead_215 : decode cX12_eventRead 215 = .ok (.goto 69, 3) := by decide +kernel
theorem dX12_eventRead_218 : decode cX12_eventRead 218 = .ok (.aload_n 0, 1) := by decide +kernel
theorem dX12_eventRead_219 : decode cX12_eventRead 219 = .ok (.ldc 74, 2) := by decide +kernel
theorem dX12_eventRead_221 : decode cX12_eventRead 221 = .ok (.invokevirtual 142, 3) := by decide +kernel
theorem dX12_eventRead_224 : decode cX12_eventRead 224 = .ok (.ifCond .eq 11, 3) := by decide +kernel
theorem dX12_eventRead_227 : decode cX12_eventRead 227 = .ok (.aload_n 0, 1) := by decide +kernel
theorem dX12_eventRead_228 : decode cX12_eventRead 228 = .ok (.iload_n 1, 1) := by decide +kernel
theorem dX12_eventRead_229 : decode cX12_eventRead 229 = .ok (.invokevirtual 238, 3) := by decide +kernel
theorem dX12_eventRead_232 : decode cX12_eventRead 232 = .ok (.goto 52, 3) := by decide +kernel
theorem dX12_eventRead_235 : decode cX12_eventRead 235 = .ok (.aload_n 0, 1) := by decide +kernel
theorem dX12_eventRead_236 : decode cX12_eventRead 236 = .ok (.ldc 75, 2) := by decide +kernel
theorem dX12_eventRead_238 : decode cX12_eventRead 238 = .ok (.invokevirtual 142, 3) := by decide +kernel
theorem dX12_eventRead_241 : decode cX12_eventRead 241 = .ok (.ifCond .eq 15, 3) := by decide +kernel
theorem dX12_eventRead_244 : decode cX12_eventRead 244 = .ok (.aload_n 0, 1) := by decide +kernel
theorem dX12_eventRead_245 : decode cX12_eventRead 245 = .ok (.iload_n 1, 1) := by decide +kernel
theorem dX12_eventRead_246 : decode cX12_eventRead 246 = .ok (.iconst 5, 1) := by decide +kernel
theorem dX12_eventRead_247 : decode cX12_eventRead 247 = .ok (.iconst (-1), 1) := by decide +kernel
theorem dX12_eventRead_248 : decode cX12_eventRead 248 = .ok (.iconst (-1), 1) := by decide +kernel
theorem dX12_eventRead_249 : decode cX12_eventRead 249 = .ok (.iconst (-1), 1) := by decide +kernel
theorem dX12_eventRead_250 : decode cX12_eventRead 250 = .ok (.invokevirtual 234, 3) := by decide +kernel
theorem dX12_eventRead_253 : decode cX12_eventRead 253 = .ok (.goto 31, 3) := by decide +kernel
theorem dX12_eventRead_256 : decode cX12_eventRead 256 = .ok (.aload_n 0, 1) := by decide +kernel
theorem dX12_eventRead_257 : decode cX12_eventRead 257 = .ok (.ldc 68, 2) := by decide +kernel
theorem dX12_eventRead_259 : decode cX12_eventRead 259 = .ok (.invokevirtual 142, 3) := by decide +kernel
theorem dX12_eventRead_262 : decode cX12_eventRead 262 = .ok (.ifCond .eq 11, 3) := by decide +kernel
theorem dX12_eventRead_265 : decode cX12_eventRead 265 = .ok (.aload_n 0, 1) := by decide +kernel
theorem dX12_eventRead_266 : decode cX12_eventRead 266 = .ok (.iload_n 1, 1) := by decide +kernel
theorem dX12_eventRead_267 : decode cX12_eventRead 267 = .ok (.invokevirtual 241, 3) := by decide +kernel
theorem dX12_eventRead_270 : decode cX12_eventRead 270 = .ok (.goto 14, 3) := by decide +kernel
theorem dX12_eventRead_273 : decode cX12_eventRead 273 = .ok (.aload_n 0, 1) := by decide +kernel
theorem dX12_eventRead_274 : decode cX12_eventRead 274 = .ok (.invokevirtual 110, 3) := by decide +kernel
theorem dX12_eventRead_277 : decode cX12_eventRead 277 = .ok (.ifCond .eq 7, 3) := by decide +kernel
theorem dX12_eventRead_280 : decode cX12_eventRead 280 = .ok (.aload_n 0, 1) := by decide +kernel
theorem dX12_eventRead_281 : decode cX12_eventRead 281 = .ok (.invokevirtual 121, 3) := by decide +kernel
theorem dX12_eventRead_284 : decode cX12_eventRead 284 = .ok (.aload_n 0, 1) := by decide +kernel
theorem dX12_eventRead_285 : decode cX12_eventRead 285 = .ok (.bipush 59, 2) := by decide +kernel
theorem dX12_eventRead_287 : decode cX12_eventRead 287 = .ok (.invokevirtual 212, 3) := by decide +kernel
theorem dX12_eventRead_290 : decode cX12_eventRead 290 = .ok (.return_, 1) := by decide +kernel
theorem dX12_putsTo_0 : decode cX12_putsTo 0 = .ok (.iconst 0, 1) := by decide +kernel
theorem dX12_putsTo_1 : decode cX12_putsTo 1 = .ok (.istore_n 2, 1) := by decide +kernel
theorem dX12_putsTo_2 : decode cX12_putsTo 2 = .ok (.iload_n 2, 1) := by decide +kernel
theorem dX12_putsTo_3 : decode cX12_putsTo 3 = .ok (.sipush 490, 3) := by decide +kernel
theorem dX12_putsTo_6 : decode cX12_putsTo 6 = .ok (.if_icmp .ge 27, 3) := by decide +kernel
theorem dX12_putsTo_9 : decode cX12_putsTo 9 = .ok (.aload_n 0, 1) := by decide +kernel
theorem dX12_putsTo_10 : decode cX12_putsTo 10 = .ok (.getfield 30, 3) := by decide +kernel
theorem dX12_putsTo_13 : decode cX12_putsTo 13 = .ok (.sipush 490, 3) := by decide +kernel
theorem dX12_putsTo_16 : decode cX12_putsTo 16 = .ok (.iload_n 1, 1) := by decide +kernel
theorem dX12_putsTo_17 : decode cX12_putsTo 17 = .ok (.imul, 1) := by decide +kernel
theorem dX12_putsTo_18 : decode cX12_putsTo 18 = .ok (.iload_n 2, 1) := by decide +kernel
theorem dX12_putsTo_19 : decode cX12_putsTo 19 = .ok (.iadd, 1) := by decide +kernel
theorem dX12_putsTo_20 : decode cX12_putsTo 20 = .ok (.aload_n 0, 1) := by decide +kernel
theorem dX12_putsTo_21 : decode cX12_putsTo 21 = .ok (.getfield 27, 3) := by decide +kernel
theorem dX12_putsTo_24 : decode cX12_putsTo 24 = .ok (.iload_n 2, 1) := by decide +kernel
theorem dX12_putsTo_25 : decode cX12_putsTo 25 = .ok (.iaload, 1) := by decide +kernel
theorem dX12_putsTo_26 : decode cX12_putsTo 26 = .ok (.iastore, 1) := by decide +kernel
theorem dX12_putsTo_27 : decode cX12_putsTo 27 = .ok (.iinc 2 1, 3) := by decide +kernel
theorem dX12_putsTo_30 : decode cX12_putsTo 30 = .ok (.goto (-28), 3) := by decide +kernel
theorem dX12_putsTo_33 : decode cX12_putsTo 33 = .ok (.return_, 1) := by decide +kernel
theorem dX12_keepsAct_0 : decode cX12_keepsAct 0 = .ok (.aload_n 0, 1) := by decide +kernel
theorem dX12_keepsAct_1 : decode cX12_keepsAct 1 = .ok (.getfield 228, 3) := by decide +kernel
theorem dX12_keepsAct_4 : decode cX12_keepsAct 4 = .ok (.bipush 12, 2) := by decide +kernel
theorem dX12_keepsAct_6 : decode cX12_keepsAct 6 = .ok (.if_icmp .ne 46, 3) := by decide +kernel
theorem dX12_keepsAct_9 : decode cX12_keepsAct 9 = .ok (.sipush 490, 3) := by decide +kernel
theorem dX12_keepsAct_12 : decode cX12_keepsAct 12 = .ok (.istore_n 1, 1) := by decide +kernel
theorem dX12_keepsAct_13 : decode cX12_keepsAct 13 = .ok (.iload_n 1, 1) := by decide +kernel
theorem dX12_keepsAct_14 : decode cX12_keepsAct 14 = .ok (.sipush 5880, 3) := by decide +kernel
theorem dX12_keepsAct_17 : decode cX12_keepsAct 17 = .ok (.if_icmp .ge 25, 3) := by decide +kernel
theorem dX12_keepsAct_20 : decode cX12_keepsAct 20 = .ok (.aload_n 0, 1) := by decide +kernel
theorem dX12_keepsAct_21 : decode cX12_keepsAct 21 = .ok (.getfield 30, 3) := by decide +kernel
theorem dX12_keepsAct_24 : decode cX12_keepsAct 24 = .ok (.iload_n 1, 1) := by decide +kernel
theorem dX12_keepsAct_25 : decode cX12_keepsAct 25 = .ok (.sipush 490, 3) := by decide +kernel
theorem dX12_keepsAct_28 : decode cX12_keepsAct 28 = .ok (.isub, 1) := by decide +kernel
theorem dX12_keepsAct_29 : decode cX12_keepsAct 29 = .ok (.aload_n 0, 1) := by decide +kernel
theorem dX12_keepsAct_30 : decode cX12_keepsAct 30 = .ok (.getfield 30, 3) := by decide +kernel
theorem dX12_keepsAct_33 : decode cX12_keepsAct 33 = .ok (.iload_n 1, 1) := by decide +kernel
theorem dX12_keepsAct_34 : decode cX12_keepsAct 34 = .ok (.iaload, 1) := by decide +kernel
theorem dX12_keepsAct_35 : decode cX12_keepsAct 35 = .ok (.iastore, 1) := by decide +kernel
theorem dX12_keepsAct_36 : decode cX12_keepsAct 36 = .ok (.iinc 1 1, 3) := by decide +kernel
theorem dX12_keepsAct_39 : decode cX12_keepsAct 39 = .ok (.goto (-26), 3) := by decide +kernel
theorem dX12_keepsAct_42 : decode cX12_keepsAct 42 = .ok (.aload_n 0, 1) := by decide +kernel
theorem dX12_keepsAct_43 : decode cX12_keepsAct 43 = .ok (.dup, 1) := by decide +kernel
theorem dX12_keepsAct_44 : decode cX12_keepsAct 44 = .ok (.getfield 228, 3) := by decide +kernel
theorem dX12_keepsAct_47 : decode cX12_keepsAct 47 = .ok (.iconst 1, 1) := by decide +kernel
theorem dX12_keepsAct_48 : decode cX12_keepsAct 48 = .ok (.isub, 1) := by decide +kernel
theorem dX12_keepsAct_49 : decode cX12_keepsAct 49 = .ok (.putfield 228, 3) := by decide +kernel
theorem dX12_keepsAct_52 : decode cX12_keepsAct 52 = .ok (.aload_n 0, 1) := by decide +kernel
theorem dX12_keepsAct_53 : decode cX12_keepsAct 53 = .ok (.aload_n 0, 1) := by decide +kernel
theorem dX12_keepsAct_54 : decode cX12_keepsAct 54 = .ok (.getfield 228, 3) := by decide +kernel
theorem dX12_keepsAct_57 : decode cX12_keepsAct 57 = .ok (.invokevirtual 250, 3) := by decide +kernel
theorem dX12_keepsAct_60 : decode cX12_keepsAct 60 = .ok (.aload_n 0, 1) := by decide +kernel
theorem dX12_keepsAct_61 : decode cX12_keepsAct 61 = .ok (.dup, 1) := by decide +kernel
theorem dX12_keepsAct_62 : decode cX12_keepsAct 62 = .ok (.getfield 228, 3) := by decide +kernel
theorem dX12_keepsAct_65 : decode cX12_keepsAct 65 = .ok (.iconst 1, 1) := by decide +kernel
theorem dX12_keepsAct_66 : decode cX12_keepsAct 66 = .ok (.iadd, 1) := by decide +kernel
theorem dX12_keepsAct_67 : decode cX12_keepsAct 67 = .ok (.putfield 228, 3) := by decide +kernel
theorem dX12_keepsAct_70 : decode cX12_keepsAct 70 = .ok (.return_, 1) := by decide +kernel
theorem dX12_plan_0 : decode cX12_plan 0 = .ok (.aload_n 0, 1) := by decide +kernel
theorem dX12_plan_1 : decode cX12_plan 1 = .ok (.iconst 0, 1) := by decide +kernel
theorem dX12_plan_2 : decode cX12_plan 2 = .ok (.putfield 46, 3) := by decide +kernel
theorem dX12_plan_5 : decode cX12_plan 5 = .ok (.aload_n 0, 1) := by decide +kernel
theorem dX12_plan_6 : decode cX12_plan 6 = .ok (.getfield 224, 3) := by decide +kernel
theorem dX12_plan_9 : decode cX12_plan 9 = .ok (.ifCond .ne 11, 3) := by decide +kernel
theorem dX12_plan_12 : decode cX12_plan 12 = .ok (.aload_n 0, 1) := by decide +kernel
theorem dX12_plan_13 : decode cX12_plan 13 = .ok (.iconst 0, 1) := by decide +kernel
theorem dX12_plan_14 : decode cX12_plan 14 = .ok (.putfield 49, 3) := by decide +kernel
theorem dX12_plan_17 : decode cX12_plan 17 = .ok (.bipush (-2), 2) := by decide +kernel
theorem dX12_plan_19 : decode cX12_plan 19 = .ok (.ireturn, 1) := by decide +kernel
theorem dX12_plan_20 : decode cX12_plan 20 = .ok (.aload_n 0, 1) := by decide +kernel
theorem dX12_plan_21 : decode cX12_plan 21 = .ok (.invokevirtual 215, 3) := by decide +kernel
theorem dX12_plan_24 : decode cX12_plan 24 = .ok (.iconst 0, 1) := by decide +kernel
theorem dX12_plan_25 : decode cX12_plan 25 = .ok (.istore_n 1, 1) := by decide +kernel
theorem dX12_plan_26 : decode cX12_plan 26 = .ok (.aload_n 0, 1) := by decide +kernel
theorem dX12_plan_27 : decode cX12_plan 27 = .ok (.invokevirtual 110, 3) := by decide +kernel
theorem dX12_plan_30 : decode cX12_plan 30 = .ok (.ifCond .eq 21, 3) := by decide +kernel
theorem dX12_plan_33 : decode cX12_plan 33 = .ok (.aload_n 0, 1) := by decide +kernel
theorem dX12_plan_34 : decode cX12_plan 34 = .ok (.invokevirtual 114, 3) := by decide +kernel
theorem dX12_plan_37 : decode cX12_plan 37 = .ok (.ifCond .ne 14, 3) := by decide +kernel
theorem dX12_plan_40 : decode cX12_plan 40 = .ok (.aload_n 0, 1) := by decide +kernel
theorem dX12_plan_41 : decode cX12_plan 41 = .ok (.iload_n 1, 1) := by decide +kernel
theorem dX12_plan_42 : decode cX12_plan 42 = .ok (.invokevirtual 244, 3) := by decide +kernel
theorem dX12_plan_45 : decode cX12_plan 45 = .ok (.iinc 1 1, 3) := by decide +kernel
theorem dX12_plan_48 : decode cX12_plan 48 = .ok (.goto (-22), 3) := by decide +kernel
theorem dX12_plan_51 : decode cX12_plan 51 = .ok (.aload_n 0, 1) := by decide +kernel
theorem dX12_plan_52 : decode cX12_plan 52 = .ok (.invokevirtual 221, 3) := by decide +kernel
theorem dX12_plan_55 : decode cX12_plan 55 = .ok (.ifCond .ne 5, 3) := by decide +kernel
theorem dX12_plan_58 : decode cX12_plan 58 = .ok (.iconst (-1), 1) := by decide +kernel
theorem dX12_plan_59 : decode cX12_plan 59 = .ok (.ireturn, 1) := by decide +kernel
theorem dX12_plan_60 : decode cX12_plan 60 = .ok (.aload_n 0, 1) := by decide +kernel
theorem dX12_plan_61 : decode cX12_plan 61 = .ok (.invokevirtual 247, 3) := by decide +kernel
theorem dX12_plan_64 : decode cX12_plan 64 = .ok (.aload_n 0, 1) := by decide +kernel
theorem dX12_plan_65 : decode cX12_plan 65 = .ok (.getfield 27, 3) := by decide +kernel
theorem dX12_plan_68 : decode cX12_plan 68 = .ok (.bipush 8, 2) := by decide +kernel
theorem dX12_plan_70 : decode cX12_plan 70 = .ok (.iload_n 1, 1) := by decide +kernel
theorem dX12_plan_71 : decode cX12_plan 71 = .ok (.iastore, 1) := by decide +kernel
theorem dX12_plan_72 : decode cX12_plan 72 = .ok (.iconst 0, 1) := by decide +kernel
theorem dX12_plan_73 : decode cX12_plan 73 = .ok (.istore_n 2, 1) := by decide +kernel
theorem dX12_plan_74 : decode cX12_plan 74 = .ok (.iload_n 2, 1) := by decide +kernel
theorem dX12_plan_75 : decode cX12_plan 75 = .ok (.iconst 5, 1) := by decide +kernel
theorem dX12_plan_76 : decode cX12_plan 76 = .ok (.iload_n 1, 1) := by decide +kernel
theorem dX12_plan_77 : decode cX12_plan 77 = .ok (.imul, 1) := by decide +kernel
theorem dX12_plan_78 : decode cX12_plan 78 = .ok (.if_icmp .ge 25, 3) := by decide +kernel
theorem dX12_plan_81 : decode cX12_plan 81 = .ok (.aload_n 0, 1) := by decide +kernel
theorem dX12_plan_82 : decode cX12_plan 82 = .ok (.getfield 27, 3) := by decide +kernel
theorem dX12_plan_85 : decode cX12_plan 85 = .ok (.sipush 145, 3) := by decide +kernel
theorem dX12_plan_88 : decode cX12_plan 88 = .ok (.iload_n 2, 1) := by decide +kernel
theorem dX12_plan_89 : decode cX12_plan 89 = .ok (.iadd, 1) := by decide +kernel
theorem dX12_plan_90 : decode cX12_plan 90 = .ok (.aload_n 0, 1) := by decide +kernel
theorem dX12_plan_91 : decode cX12_plan 91 = .ok (.getfield 24, 3) := by decide +kernel
theorem dX12_plan_94 : decode cX12_plan 94 = .ok (.iload_n 2, 1) := by decide +kernel
theorem dX12_plan_95 : decode cX12_plan 95 = .ok (.iaload, 1) := by decide +kernel
theorem dX12_plan_96 : decode cX12_plan 96 = .ok (.iastore, 1) := by decide +kernel
theorem dX12_plan_97 : decode cX12_plan 97 = .ok (.iinc 2 1, 3) := by decide +kernel
theorem dX12_plan_100 : decode cX12_plan 100 = .ok (.goto (-26), 3) := by decide +kernel
theorem dX12_plan_103 : decode cX12_plan 103 = .ok (.iload_n 1, 1) := by decide +kernel
theorem dX12_plan_104 : decode cX12_plan 104 = .ok (.ireturn, 1) := by decide +kernel
theorem dX12_takesFrom_0 : decode cX12_takesFrom 0 = .ok (.iconst 0, 1) := by decide +kernel
theorem dX12_takesFrom_1 : decode cX12_takesFrom 1 = .ok (.istore_n 2, 1) := by decide +kernel
theorem dX12_takesFrom_2 : decode cX12_takesFrom 2 = .ok (.iload_n 2, 1) := by decide +kernel
theorem dX12_takesFrom_3 : decode cX12_takesFrom 3 = .ok (.sipush 490, 3) := by decide +kernel
theorem dX12_takesFrom_6 : decode cX12_takesFrom 6 = .ok (.if_icmp .ge 27, 3) := by decide +kernel
theorem dX12_takesFrom_9 : decode cX12_takesFrom 9 = .ok (.aload_n 0, 1) := by decide +kernel
theorem dX12_takesFrom_10 : decode cX12_takesFrom 10 = .ok (.getfield 27, 3) := by decide +kernel
theorem dX12_takesFrom_13 : decode cX12_takesFrom 13 = .ok (.iload_n 2, 1) := by decide +kernel
theorem dX12_takesFrom_14 : decode cX12_takesFrom 14 = .ok (.aload_n 0, 1) := by decide +kernel
theorem dX12_takesFrom_15 : decode cX12_takesFrom 15 = .ok (.getfield 30, 3) := by decide +kernel
theorem dX12_takesFrom_18 : decode cX12_takesFrom 18 = .ok (.sipush 490, 3) := by decide +kernel
theorem dX12_takesFrom_21 : decode cX12_takesFrom 21 = .ok (.iload_n 1, 1) := by decide +kernel
theorem dX12_takesFrom_22 : decode cX12_takesFrom 22 = .ok (.imul, 1) := by decide +kernel
theorem dX12_takesFrom_23 : decode cX12_takesFrom 23 = .ok (.iload_n 2, 1) := by decide +kernel
theorem dX12_takesFrom_24 : decode cX12_takesFrom 24 = .ok (.iadd, 1) := by decide +kernel
theorem dX12_takesFrom_25 : decode cX12_takesFrom 25 = .ok (.iaload, 1) := by decide +kernel
theorem dX12_takesFrom_26 : decode cX12_takesFrom 26 = .ok (.iastore, 1) := by decide +kernel
theorem dX12_takesFrom_27 : decode cX12_takesFrom 27 = .ok (.iinc 2 1, 3) := by decide +kernel
theorem dX12_takesFrom_30 : decode cX12_takesFrom 30 = .ok (.goto (-28), 3) := by decide +kernel
theorem dX12_takesFrom_33 : decode cX12_takesFrom 33 = .ok (.return_, 1) := by decide +kernel
theorem dX12_isUp_0 : decode cX12_isUp 0 = .ok (.aload_n 0, 1) := by decide +kernel
theorem dX12_isUp_1 : decode cX12_isUp 1 = .ok (.getfield 27, 3) := by decide +kernel
theorem dX12_isUp_4 : decode cX12_isUp 4 = .ok (.iconst 1, 1) := by decide +kernel
theorem dX12_isUp_5 : decode cX12_isUp 5 = .ok (.iaload, 1) := by decide +kernel
theorem dX12_isUp_6 : decode cX12_isUp 6 = .ok (.iload_n 1, 1) := by decide +kernel
theorem dX12_isUp_7 : decode cX12_isUp 7 = .ok (.invokestatic 186, 3) := by decide +kernel
theorem dX12_isUp_10 : decode cX12_isUp 10 = .ok (.ireturn, 1) := by decide +kernel
theorem dX12_areTogether_0 : decode cX12_areTogether 0 = .ok (.aload_n 0, 1) := by decide +kernel
theorem dX12_areTogether_1 : decode cX12_areTogether 1 = .ok (.getfield 27, 3) := by decide +kernel
theorem dX12_areTogether_4 : decode cX12_areTogether 4 = .ok (.iconst 3, 1) := by decide +kernel
theorem dX12_areTogether_5 : decode cX12_areTogether 5 = .ok (.iaload, 1) := by decide +kernel
theorem dX12_areTogether_6 : decode cX12_areTogether 6 = .ok (.iload_n 1, 1) := by decide +kernel
theorem dX12_areTogether_7 : decode cX12_areTogether 7 = .ok (.invokestatic 186, 3) := by decide +kernel
theorem dX12_areTogether_10 : decode cX12_areTogether 10 = .ok (.aload_n 0, 1) := by decide +kernel
theorem dX12_areTogether_11 : decode cX12_areTogether 11 = .ok (.getfield 27, 3) := by decide +kernel
theorem dX12_areTogether_14 : decode cX12_areTogether 14 = .ok (.iconst 3, 1) := by decide +kernel
theorem dX12_areTogether_15 : decode cX12_areTogether 15 = .ok (.iaload, 1) := by decide +kernel
theorem dX12_areTogether_16 : decode cX12_areTogether 16 = .ok (.iload_n 2, 1) := by decide +kernel
theorem dX12_areTogether_17 : decode cX12_areTogether 17 = .ok (.invokestatic 186, 3) := by decide +kernel
theorem dX12_areTogether_20 : decode cX12_areTogether 20 = .ok (.if_icmp .ne 7, 3) := by decide +kernel
theorem dX12_areTogether_23 : decode cX12_areTogether 23 = .ok (.iconst 1, 1) := by decide +kernel
theorem dX12_areTogether_24 : decode cX12_areTogether 24 = .ok (.goto 4, 3) := by decide +kernel
theorem dX12_areTogether_27 : decode cX12_areTogether 27 = .ok (.iconst 0, 1) := by decide +kernel
theorem dX12_areTogether_28 : decode cX12_areTogether 28 = .ok (.ireturn, 1) := by decide +kernel
theorem dX12_doesHold_0 : decode cX12_doesHold 0 = .ok (.aload_n 0, 1) := by decide +kernel
theorem dX12_doesHold_1 : decode cX12_doesHold 1 = .ok (.getfield 27, 3) := by decide +kernel
theorem dX12_doesHold_4 : decode cX12_doesHold 4 = .ok (.bipush 40, 2) := by decide +kernel
theorem dX12_doesHold_6 : decode cX12_doesHold 6 = .ok (.iload_n 1, 1) := by decide +kernel
theorem dX12_doesHold_7 : decode cX12_doesHold 7 = .ok (.iload_n 2, 1) := by decide +kernel
theorem dX12_doesHold_8 : decode cX12_doesHold 8 = .ok (.invokestatic 190, 3) := by decide +kernel
theorem dX12_doesHold_11 : decode cX12_doesHold 11 = .ok (.iadd, 1) := by decide +kernel
theorem dX12_doesHold_12 : decode cX12_doesHold 12 = .ok (.iaload, 1) := by decide +kernel
theorem dX12_doesHold_13 : decode cX12_doesHold 13 = .ok (.iconst 2, 1) := by decide +kernel
theorem dX12_doesHold_14 : decode cX12_doesHold 14 = .ok (.if_icmp .ne 7, 3) := by decide +kernel
theorem dX12_doesHold_17 : decode cX12_doesHold 17 = .ok (.iconst 1, 1) := by decide +kernel
theorem dX12_doesHold_18 : decode cX12_doesHold 18 = .ok (.goto 4, 3) := by decide +kernel
theorem dX12_doesHold_21 : decode cX12_doesHold 21 = .ok (.iconst 0, 1) := by decide +kernel
theorem dX12_doesHold_22 : decode cX12_doesHold 22 = .ok (.ireturn, 1) := by decide +kernel
theorem dX12_isStronger_0 : decode cX12_isStronger 0 = .ok (.iload_n 0, 1) := by decide +kernel
theorem dX12_isStronger_1 : decode cX12_isStronger 1 = .ok (.iload_n 2, 1) := by decide +kernel
theorem dX12_isStronger_2 : decode cX12_isStronger 2 = .ok (.if_icmp .gt 13, 3) := by decide +kernel
theorem dX12_isStronger_5 : decode cX12_isStronger 5 = .ok (.iload_n 0, 1) := by decide +kernel
theorem dX12_isStronger_6 : decode cX12_isStronger 6 = .ok (.iload_n 2, 1) := by decide +kernel
theorem dX12_isStronger_7 : decode cX12_isStronger 7 = .ok (.if_icmp .ne 12, 3) := by decide +kernel
theorem dX12_isStronger_10 : decode cX12_isStronger 10 = .ok (.iload_n 1, 1) := by decide +kernel
theorem dX12_isStronger_11 : decode cX12_isStronger 11 = .ok (.iload_n 3, 1) := by decide +kernel
theorem dX12_isStronger_12 : decode cX12_isStronger 12 = .ok (.if_icmp .le 7, 3) := by decide +kernel
theorem dX12_isStronger_15 : decode cX12_isStronger 15 = .ok (.iconst 1, 1) := by decide +kernel
theorem dX12_isStronger_16 : decode cX12_isStronger 16 = .ok (.goto 4, 3) := by decide +kernel
theorem dX12_isStronger_19 : decode cX12_isStronger 19 = .ok (.iconst 0, 1) := by decide +kernel
theorem dX12_isStronger_20 : decode cX12_isStronger 20 = .ok (.ireturn, 1) := by decide +kernel
theorem dX12_comesUp_0 : decode cX12_comesUp 0 = .ok (.aload_n 0, 1) := by decide +kernel
theorem dX12_comesUp_1 : decode cX12_comesUp 1 = .ok (.getfield 27, 3) := by decide +kernel
theorem dX12_comesUp_4 : decode cX12_comesUp 4 = .ok (.iconst 1, 1) := by decide +kernel
theorem dX12_comesUp_5 : decode cX12_comesUp 5 = .ok (.dup2, 1) := by decide +kernel
theorem dX12_comesUp_6 : decode cX12_comesUp 6 = .ok (.iaload, 1) := by decide +kernel
theorem dX12_comesUp_7 : decode cX12_comesUp 7 = .ok (.iconst 1, 1) := by decide +kernel
theorem dX12_comesUp_8 : decode cX12_comesUp 8 = .ok (.iload_n 1, 1) := by decide +kernel
theorem dX12_comesUp_9 : decode cX12_comesUp 9 = .ok (.ishl, 1) := by decide +kernel
theorem dX12_comesUp_10 : decode cX12_comesUp 10 = .ok (.ior, 1) := by decide +kernel
theorem dX12_comesUp_11 : decode cX12_comesUp 11 = .ok (.iastore, 1) := by decide +kernel
theorem dX12_comesUp_12 : decode cX12_comesUp 12 = .ok (.iconst 0, 1) := by decide +kernel
theorem dX12_comesUp_13 : decode cX12_comesUp 13 = .ok (.istore_n 2, 1) := by decide +kernel
theorem dX12_comesUp_14 : decode cX12_comesUp 14 = .ok (.iload_n 2, 1) := by decide +kernel
theorem dX12_comesUp_15 : decode cX12_comesUp 15 = .ok (.aload_n 0, 1) := by decide +kernel
theorem dX12_comesUp_16 : decode cX12_comesUp 16 = .ok (.invokevirtual 253, 3) := by decide +kernel
theorem dX12_comesUp_19 : decode cX12_comesUp 19 = .ok (.if_icmp .ge 48, 3) := by decide +kernel
theorem dX12_comesUp_22 : decode cX12_comesUp 22 = .ok (.aload_n 0, 1) := by decide +kernel
theorem dX12_comesUp_23 : decode cX12_comesUp 23 = .ok (.iload_n 2, 1) := by decide +kernel
theorem dX12_comesUp_24 : decode cX12_comesUp 24 = .ok (.iload_n 1, 1) := by decide +kernel
theorem dX12_comesUp_25 : decode cX12_comesUp 25 = .ok (.invokevirtual 287, 3) := by decide +kernel
theorem dX12_comesUp_28 : decode cX12_comesUp 28 = .ok (.ifCond .ne 6, 3) := by decide +kernel
theorem dX12_comesUp_31 : decode cX12_comesUp 31 = .ok (.goto 30, 3) := by decide +kernel
theorem dX12_comesUp_34 : decode cX12_comesUp 34 = .ok (.aload_n 0, 1) := by decide +kernel
theorem dX12_comesUp_35 : decode cX12_comesUp 35 = .ok (.iload_n 2, 1) := by decide +kernel
theorem dX12_comesUp_36 : decode cX12_comesUp 36 = .ok (.iload_n 1, 1) := by decide +kernel
theorem dX12_comesUp_37 : decode cX12_comesUp 37 = .ok (.invokevirtual 268, 3) := by decide +kernel
theorem dX12_comesUp_40 : decode cX12_comesUp 40 = .ok (.sipush 255, 3) := by decide +kernel
theorem dX12_comesUp_43 : decode cX12_comesUp 43 = .ok (.if_icmp .ne 12, 3) := by decide +kernel
theorem dX12_comesUp_46 : decode cX12_comesUp 46 = .ok (.aload_n 0, 1) := by decide +kernel
theorem dX12_comesUp_47 : decode cX12_comesUp 47 = .ok (.iload_n 2, 1) := by decide +kernel
theorem dX12_comesUp_48 : decode cX12_comesUp 48 = .ok (.iload_n 1, 1) := by decide +kernel
theorem dX12_comesUp_49 : decode cX12_comesUp 49 = .ok (.invokevirtual 290, 3) := by decide +kernel
theorem dX12_comesUp_52 : decode cX12_comesUp 52 = .ok (.goto 9, 3) := by decide +kernel
theorem dX12_comesUp_55 : decode cX12_comesUp 55 = .ok (.aload_n 0, 1) := by decide +kernel
theorem dX12_comesUp_56 : decode cX12_comesUp 56 = .ok (.iload_n 2, 1) := by decide +kernel
theorem dX12_comesUp_57 : decode cX12_comesUp 57 = .ok (.iload_n 1, 1) := by decide +kernel
theorem dX12_comesUp_58 : decode cX12_comesUp 58 = .ok (.invokevirtual 293, 3) := by decide +kernel
theorem dX12_comesUp_61 : decode cX12_comesUp 61 = .ok (.iinc 2 1, 3) := by decide +kernel
theorem dX12_comesUp_64 : decode cX12_comesUp 64 = .ok (.goto (-50), 3) := by decide +kernel
theorem dX12_comesUp_67 : decode cX12_comesUp 67 = .ok (.return_, 1) := by decide +kernel
theorem dX12_farewell_0 : decode cX12_farewell 0 = .ok (.aload_n 0, 1) := by decide +kernel
theorem dX12_farewell_1 : decode cX12_farewell 1 = .ok (.getfield 27, 3) := by decide +kernel
theorem dX12_farewell_4 : decode cX12_farewell 4 = .ok (.iconst 5, 1) := by decide +kernel
theorem dX12_farewell_5 : decode cX12_farewell 5 = .ok (.dup2, 1) := by decide +kernel
theorem dX12_farewell_6 : decode cX12_farewell 6 = .ok (.iaload, 1) := by decide +kernel
theorem dX12_farewell_7 : decode cX12_farewell 7 = .ok (.iconst 1, 1) := by decide +kernel
theorem dX12_farewell_8 : decode cX12_farewell 8 = .ok (.iadd, 1) := by decide +kernel
theorem dX12_farewell_9 : decode cX12_farewell 9 = .ok (.iastore, 1) := by decide +kernel
theorem dX12_farewell_10 : decode cX12_farewell 10 = .ok (.iconst 0, 1) := by decide +kernel
theorem dX12_farewell_11 : decode cX12_farewell 11 = .ok (.istore_n 3, 1) := by decide +kernel
theorem dX12_farewell_12 : decode cX12_farewell 12 = .ok (.iload_n 3, 1) := by decide +kernel
theorem dX12_farewell_13 : decode cX12_farewell 13 = .ok (.aload_n 0, 1) := by decide +kernel
theorem dX12_farewell_14 : decode cX12_farewell 14 = .ok (.invokevirtual 256, 3) := by decide +kernel
theorem dX12_farewell_17 : decode cX12_farewell 17 = .ok (.if_icmp .ge 72, 3) := by decide +kernel
theorem dX12_farewell_20 : decode cX12_farewell 20 = .ok (.iload_n 1, 1) := by decide +kernel
theorem dX12_farewell_21 : decode cX12_farewell 21 = .ok (.iload_n 3, 1) := by decide +kernel
theorem dX12_farewell_22 : decode cX12_farewell 22 = .ok (.invokestatic 190, 3) := by decide +kernel
theorem dX12_farewell_25 : decode cX12_farewell 25 = .ok (.istore 4, 2) := by decide +kernel
theorem dX12_farewell_27 : decode cX12_farewell 27 = .ok (.aload_n 0, 1) := by decide +kernel
theorem dX12_farewell_28 : decode cX12_farewell 28 = .ok (.getfield 27, 3) := by decide +kernel
theorem dX12_farewell_31 : decode cX12_farewell 31 = .ok (.bipush 40, 2) := by decide +kernel
theorem dX12_farewell_33 : decode cX12_farewell 33 = .ok (.iload 4, 2) := by decide +kernel
theorem dX12_farewell_35 : decode cX12_farewell 35 = .ok (.iadd, 1) := by decide +kernel
theorem dX12_farewell_36 : decode cX12_farewell 36 = .ok (.iaload, 1) := by decide +kernel
theorem dX12_farewell_37 : decode cX12_farewell 37 = .ok (.iconst 1, 1) := by decide +kernel
theorem dX12_farewell_38 : decode cX12_farewell 38 = .ok (.if_icmp .ne 45, 3) := by decide +kernel
theorem dX12_farewell_41 : decode cX12_farewell 41 = .ok (.aload_n 0, 1) := by decide +kernel
theorem dX12_farewell_42 : decode cX12_farewell 42 = .ok (.iload_n 2, 1) := by decide +kernel
theorem dX12_farewell_43 : decode cX12_farewell 43 = .ok (.iload_n 3, 1) := by decide +kernel
theorem dX12_farewell_44 : decode cX12_farewell 44 = .ok (.invokevirtual 296, 3) := by decide +kernel
theorem dX12_farewell_47 : decode cX12_farewell 47 = .ok (.ifCond .eq 36, 3) := by decide +kernel
theorem dX12_farewell_50 : decode cX12_farewell 50 = .ok (.aload_n 0, 1) := by decide +kernel
theorem dX12_farewell_51 : decode cX12_farewell 51 = .ok (.getfield 27, 3) := by decide +kernel
theorem dX12_farewell_54 : decode cX12_farewell 54 = .ok (.bipush 70, 2) := by decide +kernel
theorem dX12_farewell_56 : decode cX12_farewell 56 = .ok (.iload 4, 2) := by decide +kernel
theorem dX12_farewell_58 : decode cX12_farewell 58 = .ok (.iadd, 1) := by decide +kernel
theorem dX12_farewell_59 : decode cX12_farewell 59 = .ok (.aload_n 0, 1) := by decide +kernel
theorem dX12_farewell_60 : decode cX12_farewell 60 = .ok (.getfield 27, 3) := by decide +kernel
theorem dX12_farewell_63 : decode cX12_farewell 63 = .ok (.bipush 70, 2) := by decide +kernel
theorem dX12_farewell_65 : decode cX12_farewell 65 = .ok (.iload 4, 2) := by decide +kernel
theorem dX12_farewell_67 : decode cX12_farewell 67 = .ok (.iadd, 1) := by decide +kernel
theorem dX12_farewell_68 : decode cX12_farewell 68 = .ok (.iaload, 1) := by decide +kernel
theorem dX12_farewell_69 : decode cX12_farewell 69 = .ok (.iconst 1, 1) := by decide +kernel
theorem dX12_farewell_70 : decode cX12_farewell 70 = .ok (.aload_n 0, 1) := by decide +kernel
theorem dX12_farewell_71 : decode cX12_farewell 71 = .ok (.iload_n 1, 1) := by decide +kernel
theorem dX12_farewell_72 : decode cX12_farewell 72 = .ok (.iload_n 3, 1) := by decide +kernel
theorem dX12_farewell_73 : decode cX12_farewell 73 = .ok (.invokevirtual 271, 3) := by decide +kernel
theorem dX12_farewell_76 : decode cX12_farewell 76 = .ok (.invokestatic 265, 3) := by decide +kernel
theorem dX12_farewell_79 : decode cX12_farewell 79 = .ok (.invokestatic 274, 3) := by decide +kernel
theorem dX12_farewell_82 : decode cX12_farewell 82 = .ok (.iastore, 1) := by decide +kernel
theorem dX12_farewell_83 : decode cX12_farewell 83 = .ok (.iinc 3 1, 3) := by decide +kernel
theorem dX12_farewell_86 : decode cX12_farewell 86 = .ok (.goto (-74), 3) := by decide +kernel
theorem dX12_farewell_89 : decode cX12_farewell 89 = .ok (.return_, 1) := by decide +kernel
theorem dX12_goesDown_0 : decode cX12_goesDown 0 = .ok (.aload_n 0, 1) := by decide +kernel
theorem dX12_goesDown_1 : decode cX12_goesDown 1 = .ok (.getfield 27, 3) := by decide +kernel
theorem dX12_goesDown_4 : decode cX12_goesDown 4 = .ok (.iconst 1, 1) := by decide +kernel
theorem dX12_goesDown_5 : decode cX12_goesDown 5 = .ok (.dup2, 1) := by decide +kernel
theorem dX12_goesDown_6 : decode cX12_goesDown 6 = .ok (.iaload, 1) := by decide +kernel
theorem dX12_goesDown_7 : decode cX12_goesDown 7 = .ok (.iconst 1, 1) := by decide +kernel
theorem dX12_goesDown_8 : decode cX12_goesDown 8 = .ok (.iload_n 1, 1) := by decide +kernel
theorem dX12_goesDown_9 : decode cX12_goesDown 9 = .ok (.ishl, 1) := by decide +kernel
theorem dX12_goesDown_10 : decode cX12_goesDown 10 = .ok (.iconst (-1), 1) := by decide +kernel
theorem dX12_goesDown_11 : decode cX12_goesDown 11 = .ok (.ixor, 1) := by decide +kernel
theorem dX12_goesDown_12 : decode cX12_goesDown 12 = .ok (.iand, 1) := by decide +kernel
theorem dX12_goesDown_13 : decode cX12_goesDown 13 = .ok (.iastore, 1) := by decide +kernel
theorem dX12_goesDown_14 : decode cX12_goesDown 14 = .ok (.iconst 0, 1) := by decide +kernel
theorem dX12_goesDown_15 : decode cX12_goesDown 15 = .ok (.istore_n 3, 1) := by decide +kernel
theorem dX12_goesDown_16 : decode cX12_goesDown 16 = .ok (.iconst 0, 1) := by decide +kernel
theorem dX12_goesDown_17 : decode cX12_goesDown 17 = .ok (.istore 4, 2) := by decide +kernel
theorem dX12_goesDown_19 : decode cX12_goesDown 19 = .ok (.iload 4, 2) := by decide +kernel
theorem dX12_goesDown_21 : decode cX12_goesDown 21 = .ok (.aload_n 0, 1) := by decide +kernel
theorem dX12_goesDown_22 : decode cX12_goesDown 22 = .ok (.invokevirtual 253, 3) := by decide +kernel
theorem dX12_goesDown_25 : decode cX12_goesDown 25 = .ok (.if_icmp .ge 89, 3) := by decide +kernel
theorem dX12_goesDown_28 : decode cX12_goesDown 28 = .ok (.iload 4, 2) := by decide +kernel
theorem dX12_goesDown_30 : decode cX12_goesDown 30 = .ok (.iload_n 1, 1) := by decide +kernel
theorem dX12_goesDown_31 : decode cX12_goesDown 31 = .ok (.invokestatic 190, 3) := by decide +kernel
theorem dX12_goesDown_34 : decode cX12_goesDown 34 = .ok (.istore 5, 2) := by decide +kernel
theorem dX12_goesDown_36 : decode cX12_goesDown 36 = .ok (.aload_n 0, 1) := by decide +kernel
theorem dX12_goesDown_37 : decode cX12_goesDown 37 = .ok (.iload 4, 2) := by decide +kernel
theorem dX12_goesDown_39 : decode cX12_goesDown 39 = .ok (.iload_n 1, 1) := by decide +kernel
theorem dX12_goesDown_40 : decode cX12_goesDown 40 = .ok (.invokevirtual 299, 3) := by decide +kernel
theorem dX12_goesDown_43 : decode cX12_goesDown 43 = .ok (.istore 6, 2) := by decide +kernel
theorem dX12_goesDown_45 : decode cX12_goesDown 45 = .ok (.aload_n 0, 1) := by decide +kernel
theorem dX12_goesDown_46 : decode cX12_goesDown 46 = .ok (.getfield 27, 3) := by decide +kernel
theorem dX12_goesDown_49 : decode cX12_goesDown 49 = .ok (.bipush 40, 2) := by decide +kernel
theorem dX12_goesDown_51 : decode cX12_goesDown 51 = .ok (.iload 5, 2) := by decide +kernel
theorem dX12_goesDown_53 : decode cX12_goesDown 53 = .ok (.iadd, 1) := by decide +kernel
theorem dX12_goesDown_54 : decode cX12_goesDown 54 = .ok (.iconst 0, 1) := by decide +kernel
theorem dX12_goesDown_55 : decode cX12_goesDown 55 = .ok (.iastore, 1) := by decide +kernel
theorem dX12_goesDown_56 : decode cX12_goesDown 56 = .ok (.aload_n 0, 1) := by decide +kernel
theorem dX12_goesDown_57 : decode cX12_goesDown 57 = .ok (.getfield 27, 3) := by decide +kernel
theorem dX12_goesDown_60 : decode cX12_goesDown 60 = .ok (.bipush 70, 2) := by decide +kernel
theorem dX12_goesDown_62 : decode cX12_goesDown 62 = .ok (.iload 5, 2) := by decide +kernel
theorem dX12_goesDown_64 : decode cX12_goesDown 64 = .ok (.iadd, 1) := by decide +kernel
theorem dX12_goesDown_65 : decode cX12_goesDown 65 = .ok (.iconst 0, 1) := by decide +kernel
theorem dX12_goesDown_66 : decode cX12_goesDown 66 = .ok (.iastore, 1) := by decide +kernel
theorem dX12_goesDown_67 : decode cX12_goesDown 67 = .ok (.aload_n 0, 1) := by decide +kernel
theorem dX12_goesDown_68 : decode cX12_goesDown 68 = .ok (.getfield 27, 3) := by decide +kernel
theorem dX12_goesDown_71 : decode cX12_goesDown 71 = .ok (.bipush 100, 2) := by decide +kernel
theorem dX12_goesDown_73 : decode cX12_goesDown 73 = .ok (.iload 5, 2) := by decide +kernel
theorem dX12_goesDown_75 : decode cX12_goesDown 75 = .ok (.iadd, 1) := by decide +kernel
theorem dX12_goesDown_76 : decode cX12_goesDown 76 = .ok (.iconst 0, 1) := by decide +kernel
theorem dX12_goesDown_77 : decode cX12_goesDown 77 = .ok (.iastore, 1) := by decide +kernel
theorem dX12_goesDown_78 : decode cX12_goesDown 78 = .ok (.iload 6, 2) := by decide +kernel
theorem dX12_goesDown_80 : decode cX12_goesDown 80 = .ok (.ifCond .ne 6, 3) := by decide +kernel
theorem dX12_goesDown_83 : decode cX12_goesDown 83 = .ok (.goto 25, 3) := by decide +kernel
theorem dX12_goesDown_86 : decode cX12_goesDown 86 = .ok (.iinc 3 1, 3) := by decide +kernel
theorem dX12_goesDown_89 : decode cX12_goesDown 89 = .ok (.aload_n 0, 1) := by decide +kernel
theorem dX12_goesDown_90 : decode cX12_goesDown 90 = .ok (.iload 4, 2) := by decide +kernel
theorem dX12_goesDown_92 : decode cX12_goesDown 92 = .ok (.iload_n 1, 1) := by decide +kernel
theorem dX12_goesDown_93 : decode cX12_goesDown 93 = .ok (.iconst 2, 1) := by decide +kernel
theorem dX12_goesDown_94 : decode cX12_goesDown 94 = .ok (.invokevirtual 283, 3) := by decide +kernel
theorem dX12_goesDown_97 : decode cX12_goesDown 97 = .ok (.iload_n 2, 1) := by decide +kernel
theorem dX12_goesDown_98 : decode cX12_goesDown 98 = .ok (.ifCond .eq 10, 3) := by decide +kernel
theorem dX12_goesDown_101 : decode cX12_goesDown 101 = .ok (.aload_n 0, 1) := by decide +kernel
theorem dX12_goesDown_102 : decode cX12_goesDown 102 = .ok (.iload 4, 2) := by decide +kernel
theorem dX12_goesDown_104 : decode cX12_goesDown 104 = .ok (.iload_n 1, 1) := by decide +kernel
theorem dX12_goesDown_105 : decode cX12_goesDown 105 = .ok (.invokevirtual 302, 3) := by decide +kernel
theorem dX12_goesDown_108 : decode cX12_goesDown 108 = .ok (.iinc 4 1, 3) := by decide +kernel
theorem dX12_goesDown_111 : decode cX12_goesDown 111 = .ok (.goto (-92), 3) := by decide +kernel
theorem dX12_goesDown_114 : decode cX12_goesDown 114 = .ok (.iload_n 3, 1) := by decide +kernel
theorem dX12_goesDown_115 : decode cX12_goesDown 115 = .ok (.ireturn, 1) := by decide +kernel
theorem dX12_happens_0 : decode cX12_happens 0 = .ok (.aload_n 0, 1) := by decide +kernel
theorem dX12_happens_1 : decode cX12_happens 1 = .ok (.getfield 27, 3) := by decide +kernel
theorem dX12_happens_4 : decode cX12_happens 4 = .ok (.sipush 145, 3) := by decide +kernel
theorem dX12_happens_7 : decode cX12_happens 7 = .ok (.iconst 5, 1) := by decide +kernel
theorem dX12_happens_8 : decode cX12_happens 8 = .ok (.iload_n 1, 1) := by decide +kernel
theorem dX12_happens_9 : decode cX12_happens 9 = .ok (.imul, 1) := by decide +kernel
theorem dX12_happens_10 : decode cX12_happens 10 = .ok (.iadd, 1) := by decide +kernel
theorem dX12_happens_11 : decode cX12_happens 11 = .ok (.iconst 2, 1) := by decide +kernel
theorem dX12_happens_12 : decode cX12_happens 12 = .ok (.iadd, 1) := by decide +kernel
theorem dX12_happens_13 : decode cX12_happens 13 = .ok (.iaload, 1) := by decide +kernel
theorem dX12_happens_14 : decode cX12_happens 14 = .ok (.istore_n 2, 1) := by decide +kernel
theorem dX12_happens_15 : decode cX12_happens 15 = .ok (.aload_n 0, 1) := by decide +kernel
theorem dX12_happens_16 : decode cX12_happens 16 = .ok (.getfield 27, 3) := by decide +kernel
theorem dX12_happens_19 : decode cX12_happens 19 = .ok (.sipush 145, 3) := by decide +kernel
theorem dX12_happens_22 : decode cX12_happens 22 = .ok (.iconst 5, 1) := by decide +kernel
theorem dX12_happens_23 : decode cX12_happens 23 = .ok (.iload_n 1, 1) := by decide +kernel
theorem dX12_happens_24 : decode cX12_happens 24 = .ok (.imul, 1) := by decide +kernel
theorem dX12_happens_25 : decode cX12_happens 25 = .ok (.iadd, 1) := by decide +kernel
theorem dX12_happens_26 : decode cX12_happens 26 = .ok (.iconst 1, 1) := by decide +kernel
theorem dX12_happens_27 : decode cX12_happens 27 = .ok (.iadd, 1) := by decide +kernel
theorem dX12_happens_28 : decode cX12_happens 28 = .ok (.iaload, 1) := by decide +kernel
theorem dX12_happens_29 : decode cX12_happens 29 = .ok (.tableswitch 129 0 5 #[39, 55, 77, 92, 109, 119], 39) := by decide +kernel
theorem dX12_happens_68 : decode cX12_happens 68 = .ok (.aload_n 0, 1) := by decide +kernel
theorem dX12_happens_69 : decode cX12_happens 69 = .ok (.iload_n 2, 1) := by decide +kernel
theorem dX12_happens_70 : decode cX12_happens 70 = .ok (.invokevirtual 305, 3) := by decide +kernel
theorem dX12_happens_73 : decode cX12_happens 73 = .ok (.ifCond .ne 125, 3) := by decide +kernel
theorem dX12_happens_76 : decode cX12_happens 76 = .ok (.aload_n 0, 1) := by decide +kernel
theorem dX12_happens_77 : decode cX12_happens 77 = .ok (.iload_n 2, 1) := by decide +kernel
theorem dX12_happens_78 : decode cX12_happens 78 = .ok (.invokevirtual 308, 3) := by decide +kernel
theorem dX12_happens_81 : decode cX12_happens 81 = .ok (.goto 117, 3) := by decide +kernel
theorem dX12_happens_84 : decode cX12_happens 84 = .ok (.aload_n 0, 1) := by decide +kernel
theorem dX12_happens_85 : decode cX12_happens 85 = .ok (.iload_n 2, 1) := by decide +kernel
theorem dX12_happens_86 : decode cX12_happens 86 = .ok (.invokevirtual 305, 3) := by decide +kernel
theorem dX12_happens_89 : decode cX12_happens 89 = .ok (.ifCond .eq 12, 3) := by decide +kernel
theorem dX12_happens_92 : decode cX12_happens 92 = .ok (.aload_n 0, 1) := by decide +kernel
theorem dX12_happens_93 : decode cX12_happens 93 = .ok (.iload_n 2, 1) := by decide +kernel
theorem dX12_happens_94 : decode cX12_happens 94 = .ok (.iconst 0, 1) := by decide +kernel
theorem dX12_happens_95 : decode cX12_happens 95 = .ok (.invokevirtual 311, 3) := by decide +kernel
theorem dX12_happens_98 : decode cX12_happens 98 = .ok (.goto 4, 3) := by decide +kernel
theorem dX12_happens_101 : decode cX12_happens 101 = .ok (.iconst 0, 1) := by decide +kernel
theorem dX12_happens_102 : decode cX12_happens 102 = .ok (.istore_n 3, 1) := by decide +kernel
theorem dX12_happens_103 : decode cX12_happens 103 = .ok (.goto 95, 3) := by decide +kernel
theorem dX12_happens_106 : decode cX12_happens 106 = .ok (.aload_n 0, 1) := by decide +kernel
theorem dX12_happens_107 : decode cX12_happens 107 = .ok (.getfield 27, 3) := by decide +kernel
theorem dX12_happens_110 : decode cX12_happens 110 = .ok (.iconst 2, 1) := by decide +kernel
theorem dX12_happens_111 : decode cX12_happens 111 = .ok (.dup2, 1) := by decide +kernel
theorem dX12_happens_112 : decode cX12_happens 112 = .ok (.iaload, 1) := by decide +kernel
theorem dX12_happens_113 : decode cX12_happens 113 = .ok (.iconst 1, 1) := by decide +kernel
theorem dX12_happens_114 : decode cX12_happens 114 = .ok (.iload_n 2, 1) := by decide +kernel
theorem dX12_happens_115 : decode cX12_happens 115 = .ok (.ishl, 1) := by decide +kernel
theorem dX12_happens_116 : decode cX12_happens 116 = .ok (.ior, 1) := by decide +kernel
theorem dX12_happens_117 : decode cX12_happens 117 = .ok (.iastore, 1) := by decide +kernel
theorem dX12_happens_118 : decode cX12_happens 118 = .ok (.goto 80, 3) := by decide +kernel
theorem dX12_happens_121 : decode cX12_happens 121 = .ok (.aload_n 0, 1) := by decide +kernel
theorem dX12_happens_122 : decode cX12_happens 122 = .ok (.getfield 27, 3) := by decide +kernel
theorem dX12_happens_125 : decode cX12_happens 125 = .ok (.iconst 2, 1) := by decide +kernel
theorem dX12_happens_126 : decode cX12_happens 126 = .ok (.dup2, 1) := by decide +kernel
theorem dX12_happens_127 : decode cX12_happens 127 = .ok (.iaload, 1) := by decide +kernel
theorem dX12_happens_128 : decode cX12_happens 128 = .ok (.iconst 1, 1) := by decide +kernel
theorem dX12_happens_129 : decode cX12_happens 129 = .ok (.iload_n 2, 1) := by decide +kernel
theorem dX12_happens_130 : decode cX12_happens 130 = .ok (.ishl, 1) := by decide +kernel
theorem dX12_happens_131 : decode cX12_happens 131 = .ok (.iconst (-1), 1) := by decide +kernel
theorem dX12_happens_132 : decode cX12_happens 132 = .ok (.ixor, 1) := by decide +kernel
theorem dX12_happens_133 : decode cX12_happens 133 = .ok (.iand, 1) := by decide +kernel
theorem dX12_happens_134 : decode cX12_happens 134 = .ok (.iastore, 1) := by decide +kernel
theorem dX12_happens_135 : decode cX12_happens 135 = .ok (.goto 63, 3) := by decide +kernel
theorem dX12_happens_138 : decode cX12_happens 138 = .ok (.aload_n 0, 1) := by decide +kernel
theorem dX12_happens_139 : decode cX12_happens 139 = .ok (.getfield 27, 3) := by decide +kernel
theorem dX12_happens_142 : decode cX12_happens 142 = .ok (.iconst 3, 1) := by decide +kernel
theorem dX12_happens_143 : decode cX12_happens 143 = .ok (.iload_n 2, 1) := by decide +kernel
theorem dX12_happens_144 : decode cX12_happens 144 = .ok (.iastore, 1) := by decide +kernel
theorem dX12_happens_145 : decode cX12_happens 145 = .ok (.goto 53, 3) := by decide +kernel
theorem dX12_happens_148 : decode cX12_happens 148 = .ok (.aload_n 0, 1) := by decide +kernel
theorem dX12_happens_149 : decode cX12_happens 149 = .ok (.getfield 27, 3) := by decide +kernel
theorem dX12_happens_152 : decode cX12_happens 152 = .ok (.iconst 3, 1) := by decide +kernel
theorem dX12_happens_153 : decode cX12_happens 153 = .ok (.iconst 0, 1) := by decide +kernel
theorem dX12_happens_154 : decode cX12_happens 154 = .ok (.iastore, 1) := by decide +kernel
theorem dX12_happens_155 : decode cX12_happens 155 = .ok (.goto 43, 3) := by decide +kernel
theorem dX12_happens_158 : decode cX12_happens 158 = .ok (.aload_n 0, 1) := by decide +kernel
theorem dX12_happens_159 : decode cX12_happens 159 = .ok (.getfield 27, 3) := by decide +kernel
theorem dX12_happens_162 : decode cX12_happens 162 = .ok (.bipush 10, 2) := by decide +kernel
theorem dX12_happens_164 : decode cX12_happens 164 = .ok (.aload_n 0, 1) := by decide +kernel
theorem dX12_happens_165 : decode cX12_happens 165 = .ok (.getfield 27, 3) := by decide +kernel
theorem dX12_happens_168 : decode cX12_happens 168 = .ok (.sipush 145, 3) := by decide +kernel
theorem dX12_happens_171 : decode cX12_happens 171 = .ok (.iconst 5, 1) := by decide +kernel
theorem dX12_happens_172 : decode cX12_happens 172 = .ok (.iload_n 1, 1) := by decide +kernel
theorem dX12_happens_173 : decode cX12_happens 173 = .ok (.imul, 1) := by decide +kernel
theorem dX12_happens_174 : decode cX12_happens 174 = .ok (.iadd, 1) := by decide +kernel
theorem dX12_happens_175 : decode cX12_happens 175 = .ok (.iconst 3, 1) := by decide +kernel
theorem dX12_happens_176 : decode cX12_happens 176 = .ok (.iadd, 1) := by decide +kernel
theorem dX12_happens_177 : decode cX12_happens 177 = .ok (.iaload, 1) := by decide +kernel
theorem dX12_happens_178 : decode cX12_happens 178 = .ok (.iload_n 2, 1) := by decide +kernel
theorem dX12_happens_179 : decode cX12_happens 179 = .ok (.invokestatic 190, 3) := by decide +kernel
theorem dX12_happens_182 : decode cX12_happens 182 = .ok (.iadd, 1) := by decide +kernel
theorem dX12_happens_183 : decode cX12_happens 183 = .ok (.aload_n 0, 1) := by decide +kernel
theorem dX12_happens_184 : decode cX12_happens 184 = .ok (.getfield 27, 3) := by decide +kernel
theorem dX12_happens_187 : decode cX12_happens 187 = .ok (.sipush 145, 3) := by decide +kernel
theorem dX12_happens_190 : decode cX12_happens 190 = .ok (.iconst 5, 1) := by decide +kernel
theorem dX12_happens_191 : decode cX12_happens 191 = .ok (.iload_n 1, 1) := by decide +kernel
theorem dX12_happens_192 : decode cX12_happens 192 = .ok (.imul, 1) := by decide +kernel
theorem dX12_happens_193 : decode cX12_happens 193 = .ok (.iadd, 1) := by decide +kernel
theorem dX12_happens_194 : decode cX12_happens 194 = .ok (.iconst 4, 1) := by decide +kernel
theorem dX12_happens_195 : decode cX12_happens 195 = .ok (.iadd, 1) := by decide +kernel
theorem dX12_happens_196 : decode cX12_happens 196 = .ok (.iaload, 1) := by decide +kernel
theorem dX12_happens_197 : decode cX12_happens 197 = .ok (.iastore, 1) := by decide +kernel
theorem dX12_happens_198 : decode cX12_happens 198 = .ok (.return_, 1) := by decide +kernel
theorem dX12_isLost_0 : decode cX12_isLost 0 = .ok (.aload_n 0, 1) := by decide +kernel
theorem dX12_isLost_1 : decode cX12_isLost 1 = .ok (.getfield 27, 3) := by decide +kernel
theorem dX12_isLost_4 : decode cX12_isLost 4 = .ok (.iconst 4, 1) := by decide +kernel
