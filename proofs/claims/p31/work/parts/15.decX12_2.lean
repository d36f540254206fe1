theorem dX12_isLost_5 : decode cX12_isLost 5 = .ok (.iaload, 1) := by decide +kernel
theorem dX12_isLost_6 : decode cX12_isLost 6 = .ok (.ifCond .ne 5, 3) := by decide +kernel
theorem dX12_isLost_9 : decode cX12_isLost 9 = .ok (.iconst 0, 1) := by decide +kernel
theorem dX12_isLost_10 : decode cX12_isLost 10 = .ok (.ireturn, 1) := by decide +kernel
theorem dX12_isLost_11 : decode cX12_isLost 11 = .ok (.ldc2_w 315, 3) := by decide +kernel
theorem dX12_isLost_14 : decode cX12_isLost 14 = .ok (.aload_n 0, 1) := by decide +kernel
theorem dX12_isLost_15 : decode cX12_isLost 15 = .ok (.getfield 27, 3) := by decide +kernel
theorem dX12_isLost_18 : decode cX12_isLost 18 = .ok (.bipush 9, 2) := by decide +kernel
theorem dX12_isLost_20 : decode cX12_isLost 20 = .ok (.iaload, 1) := by decide +kernel
theorem dX12_isLost_21 : decode cX12_isLost 21 = .ok (.i2l, 1) := by decide +kernel
theorem dX12_isLost_22 : decode cX12_isLost 22 = .ok (.lmul, 1) := by decide +kernel
theorem dX12_isLost_23 : decode cX12_isLost 23 = .ok (.ldc2_w 317, 3) := by decide +kernel
theorem dX12_isLost_26 : decode cX12_isLost 26 = .ok (.ladd, 1) := by decide +kernel
theorem dX12_isLost_27 : decode cX12_isLost 27 = .ok (.ldc2_w 319, 3) := by decide +kernel
theorem dX12_isLost_30 : decode cX12_isLost 30 = .ok (.lrem, 1) := by decide +kernel
theorem dX12_isLost_31 : decode cX12_isLost 31 = .ok (.lstore_n 1, 1) := by decide +kernel
theorem dX12_isLost_32 : decode cX12_isLost 32 = .ok (.aload_n 0, 1) := by decide +kernel
theorem dX12_isLost_33 : decode cX12_isLost 33 = .ok (.getfield 27, 3) := by decide +kernel
theorem dX12_isLost_36 : decode cX12_isLost 36 = .ok (.bipush 9, 2) := by decide +kernel
theorem dX12_isLost_38 : decode cX12_isLost 38 = .ok (.lload_n 1, 1) := by decide +kernel
theorem dX12_isLost_39 : decode cX12_isLost 39 = .ok (.l2i, 1) := by decide +kernel
theorem dX12_isLost_40 : decode cX12_isLost 40 = .ok (.iastore, 1) := by decide +kernel
theorem dX12_isLost_41 : decode cX12_isLost 41 = .ok (.lload_n 1, 1) := by decide +kernel
theorem dX12_isLost_42 : decode cX12_isLost 42 = .ok (.ldc2_w 321, 3) := by decide +kernel
theorem dX12_isLost_45 : decode cX12_isLost 45 = .ok (.ldiv, 1) := by decide +kernel
theorem dX12_isLost_46 : decode cX12_isLost 46 = .ok (.ldc2_w 323, 3) := by decide +kernel
theorem dX12_isLost_49 : decode cX12_isLost 49 = .ok (.lrem, 1) := by decide +kernel
theorem dX12_isLost_50 : decode cX12_isLost 50 = .ok (.aload_n 0, 1) := by decide +kernel
theorem dX12_isLost_51 : decode cX12_isLost 51 = .ok (.getfield 27, 3) := by decide +kernel
theorem dX12_isLost_54 : decode cX12_isLost 54 = .ok (.iconst 4, 1) := by decide +kernel
theorem dX12_isLost_55 : decode cX12_isLost 55 = .ok (.iaload, 1) := by decide +kernel
theorem dX12_isLost_56 : decode cX12_isLost 56 = .ok (.i2l, 1) := by decide +kernel
theorem dX12_isLost_57 : decode cX12_isLost 57 = .ok (.lcmp, 1) := by decide +kernel
theorem dX12_isLost_58 : decode cX12_isLost 58 = .ok (.ifCond .ge 7, 3) := by decide +kernel
theorem dX12_isLost_61 : decode cX12_isLost 61 = .ok (.iconst 1, 1) := by decide +kernel
theorem dX12_isLost_62 : decode cX12_isLost 62 = .ok (.goto 4, 3) := by decide +kernel
theorem dX12_isLost_65 : decode cX12_isLost 65 = .ok (.iconst 0, 1) := by decide +kernel
theorem dX12_isLost_66 : decode cX12_isLost 66 = .ok (.istore_n 3, 1) := by decide +kernel
theorem dX12_isLost_67 : decode cX12_isLost 67 = .ok (.aload_n 0, 1) := by decide +kernel
theorem dX12_isLost_68 : decode cX12_isLost 68 = .ok (.getfield 27, 3) := by decide +kernel
theorem dX12_isLost_71 : decode cX12_isLost 71 = .ok (.bipush 6, 2) := by decide +kernel
theorem dX12_isLost_73 : decode cX12_isLost 73 = .ok (.dup2, 1) := by decide +kernel
theorem dX12_isLost_74 : decode cX12_isLost 74 = .ok (.iaload, 1) := by decide +kernel
theorem dX12_isLost_75 : decode cX12_isLost 75 = .ok (.iload_n 3, 1) := by decide +kernel
theorem dX12_isLost_76 : decode cX12_isLost 76 = .ok (.invokestatic 178, 3) := by decide +kernel
theorem dX12_isLost_79 : decode cX12_isLost 79 = .ok (.iadd, 1) := by decide +kernel
theorem dX12_isLost_80 : decode cX12_isLost 80 = .ok (.iastore, 1) := by decide +kernel
theorem dX12_isLost_81 : decode cX12_isLost 81 = .ok (.iload_n 3, 1) := by decide +kernel
theorem dX12_isLost_82 : decode cX12_isLost 82 = .ok (.ireturn, 1) := by decide +kernel
theorem dX12_sends_0 : decode cX12_sends 0 = .ok (.iload_n 1, 1) := by decide +kernel
theorem dX12_sends_1 : decode cX12_sends 1 = .ok (.iload_n 2, 1) := by decide +kernel
theorem dX12_sends_2 : decode cX12_sends 2 = .ok (.invokestatic 190, 3) := by decide +kernel
theorem dX12_sends_5 : decode cX12_sends 5 = .ok (.istore_n 3, 1) := by decide +kernel
theorem dX12_sends_6 : decode cX12_sends 6 = .ok (.aload_n 0, 1) := by decide +kernel
theorem dX12_sends_7 : decode cX12_sends 7 = .ok (.getfield 37, 3) := by decide +kernel
theorem dX12_sends_10 : decode cX12_sends 10 = .ok (.iload_n 2, 1) := by decide +kernel
theorem dX12_sends_11 : decode cX12_sends 11 = .ok (.iconst 0, 1) := by decide +kernel
theorem dX12_sends_12 : decode cX12_sends 12 = .ok (.iastore, 1) := by decide +kernel
theorem dX12_sends_13 : decode cX12_sends 13 = .ok (.aload_n 0, 1) := by decide +kernel
theorem dX12_sends_14 : decode cX12_sends 14 = .ok (.getfield 27, 3) := by decide +kernel
theorem dX12_sends_17 : decode cX12_sends 17 = .ok (.bipush 40, 2) := by decide +kernel
theorem dX12_sends_19 : decode cX12_sends 19 = .ok (.iload_n 3, 1) := by decide +kernel
theorem dX12_sends_20 : decode cX12_sends 20 = .ok (.iadd, 1) := by decide +kernel
theorem dX12_sends_21 : decode cX12_sends 21 = .ok (.iaload, 1) := by decide +kernel
theorem dX12_sends_22 : decode cX12_sends 22 = .ok (.iconst 1, 1) := by decide +kernel
theorem dX12_sends_23 : decode cX12_sends 23 = .ok (.if_icmp .ne 21, 3) := by decide +kernel
theorem dX12_sends_26 : decode cX12_sends 26 = .ok (.aload_n 0, 1) := by decide +kernel
theorem dX12_sends_27 : decode cX12_sends 27 = .ok (.getfield 27, 3) := by decide +kernel
theorem dX12_sends_30 : decode cX12_sends 30 = .ok (.bipush 70, 2) := by decide +kernel
theorem dX12_sends_32 : decode cX12_sends 32 = .ok (.iload_n 3, 1) := by decide +kernel
theorem dX12_sends_33 : decode cX12_sends 33 = .ok (.iadd, 1) := by decide +kernel
theorem dX12_sends_34 : decode cX12_sends 34 = .ok (.iaload, 1) := by decide +kernel
theorem dX12_sends_35 : decode cX12_sends 35 = .ok (.ifCond .gt 9, 3) := by decide +kernel
theorem dX12_sends_38 : decode cX12_sends 38 = .ok (.aload_n 0, 1) := by decide +kernel
theorem dX12_sends_39 : decode cX12_sends 39 = .ok (.iload_n 1, 1) := by decide +kernel
theorem dX12_sends_40 : decode cX12_sends 40 = .ok (.iload_n 2, 1) := by decide +kernel
theorem dX12_sends_41 : decode cX12_sends 41 = .ok (.invokevirtual 290, 3) := by decide +kernel
theorem dX12_sends_44 : decode cX12_sends 44 = .ok (.aload_n 0, 1) := by decide +kernel
theorem dX12_sends_45 : decode cX12_sends 45 = .ok (.iload_n 1, 1) := by decide +kernel
theorem dX12_sends_46 : decode cX12_sends 46 = .ok (.iload_n 2, 1) := by decide +kernel
theorem dX12_sends_47 : decode cX12_sends 47 = .ok (.invokevirtual 299, 3) := by decide +kernel
theorem dX12_sends_50 : decode cX12_sends 50 = .ok (.ifCond .eq 15, 3) := by decide +kernel
theorem dX12_sends_53 : decode cX12_sends 53 = .ok (.aload_n 0, 1) := by decide +kernel
theorem dX12_sends_54 : decode cX12_sends 54 = .ok (.getfield 27, 3) := by decide +kernel
theorem dX12_sends_57 : decode cX12_sends 57 = .ok (.bipush 70, 2) := by decide +kernel
theorem dX12_sends_59 : decode cX12_sends 59 = .ok (.iload_n 3, 1) := by decide +kernel
theorem dX12_sends_60 : decode cX12_sends 60 = .ok (.iadd, 1) := by decide +kernel
theorem dX12_sends_61 : decode cX12_sends 61 = .ok (.iaload, 1) := by decide +kernel
theorem dX12_sends_62 : decode cX12_sends 62 = .ok (.ifCond .eq 4, 3) := by decide +kernel
theorem dX12_sends_65 : decode cX12_sends 65 = .ok (.return_, 1) := by decide +kernel
theorem dX12_sends_66 : decode cX12_sends 66 = .ok (.aload_n 0, 1) := by decide +kernel
theorem dX12_sends_67 : decode cX12_sends 67 = .ok (.getfield 37, 3) := by decide +kernel
theorem dX12_sends_70 : decode cX12_sends 70 = .ok (.iload_n 2, 1) := by decide +kernel
theorem dX12_sends_71 : decode cX12_sends 71 = .ok (.aload_n 0, 1) := by decide +kernel
theorem dX12_sends_72 : decode cX12_sends 72 = .ok (.iload_n 1, 1) := by decide +kernel
theorem dX12_sends_73 : decode cX12_sends 73 = .ok (.iload_n 2, 1) := by decide +kernel
theorem dX12_sends_74 : decode cX12_sends 74 = .ok (.invokevirtual 268, 3) := by decide +kernel
theorem dX12_sends_77 : decode cX12_sends 77 = .ok (.iastore, 1) := by decide +kernel
theorem dX12_sends_78 : decode cX12_sends 78 = .ok (.aload_n 0, 1) := by decide +kernel
theorem dX12_sends_79 : decode cX12_sends 79 = .ok (.getfield 27, 3) := by decide +kernel
theorem dX12_sends_82 : decode cX12_sends 82 = .ok (.iconst 5, 1) := by decide +kernel
theorem dX12_sends_83 : decode cX12_sends 83 = .ok (.dup2, 1) := by decide +kernel
theorem dX12_sends_84 : decode cX12_sends 84 = .ok (.iaload, 1) := by decide +kernel
theorem dX12_sends_85 : decode cX12_sends 85 = .ok (.iconst 1, 1) := by decide +kernel
theorem dX12_sends_86 : decode cX12_sends 86 = .ok (.iadd, 1) := by decide +kernel
theorem dX12_sends_87 : decode cX12_sends 87 = .ok (.iastore, 1) := by decide +kernel
theorem dX12_sends_88 : decode cX12_sends 88 = .ok (.aload_n 0, 1) := by decide +kernel
theorem dX12_sends_89 : decode cX12_sends 89 = .ok (.getfield 27, 3) := by decide +kernel
theorem dX12_sends_92 : decode cX12_sends 92 = .ok (.bipush 70, 2) := by decide +kernel
theorem dX12_sends_94 : decode cX12_sends 94 = .ok (.iload_n 3, 1) := by decide +kernel
theorem dX12_sends_95 : decode cX12_sends 95 = .ok (.iadd, 1) := by decide +kernel
theorem dX12_sends_96 : decode cX12_sends 96 = .ok (.aload_n 0, 1) := by decide +kernel
theorem dX12_sends_97 : decode cX12_sends 97 = .ok (.getfield 17, 3) := by decide +kernel
theorem dX12_sends_100 : decode cX12_sends 100 = .ok (.bipush 28, 2) := by decide +kernel
theorem dX12_sends_102 : decode cX12_sends 102 = .ok (.iload_n 1, 1) := by decide +kernel
theorem dX12_sends_103 : decode cX12_sends 103 = .ok (.iadd, 1) := by decide +kernel
theorem dX12_sends_104 : decode cX12_sends 104 = .ok (.iaload, 1) := by decide +kernel
theorem dX12_sends_105 : decode cX12_sends 105 = .ok (.iastore, 1) := by decide +kernel
theorem dX12_sends_106 : decode cX12_sends 106 = .ok (.return_, 1) := by decide +kernel
theorem dX12_reads_0 : decode cX12_reads 0 = .ok (.iload_n 1, 1) := by decide +kernel
theorem dX12_reads_1 : decode cX12_reads 1 = .ok (.iload_n 3, 1) := by decide +kernel
theorem dX12_reads_2 : decode cX12_reads 2 = .ok (.invokestatic 190, 3) := by decide +kernel
theorem dX12_reads_5 : decode cX12_reads 5 = .ok (.istore 4, 2) := by decide +kernel
theorem dX12_reads_7 : decode cX12_reads 7 = .ok (.aload_n 0, 1) := by decide +kernel
theorem dX12_reads_8 : decode cX12_reads 8 = .ok (.getfield 37, 3) := by decide +kernel
theorem dX12_reads_11 : decode cX12_reads 11 = .ok (.iload_n 2, 1) := by decide +kernel
theorem dX12_reads_12 : decode cX12_reads 12 = .ok (.iaload, 1) := by decide +kernel
theorem dX12_reads_13 : decode cX12_reads 13 = .ok (.iload_n 2, 1) := by decide +kernel
theorem dX12_reads_14 : decode cX12_reads 14 = .ok (.aload_n 0, 1) := by decide +kernel
theorem dX12_reads_15 : decode cX12_reads 15 = .ok (.iload_n 1, 1) := by decide +kernel
theorem dX12_reads_16 : decode cX12_reads 16 = .ok (.iload_n 3, 1) := by decide +kernel
theorem dX12_reads_17 : decode cX12_reads 17 = .ok (.invokevirtual 268, 3) := by decide +kernel
theorem dX12_reads_20 : decode cX12_reads 20 = .ok (.iload_n 3, 1) := by decide +kernel
theorem dX12_reads_21 : decode cX12_reads 21 = .ok (.invokestatic 325, 3) := by decide +kernel
theorem dX12_reads_24 : decode cX12_reads 24 = .ok (.istore 5, 2) := by decide +kernel
theorem dX12_reads_26 : decode cX12_reads 26 = .ok (.aload_n 0, 1) := by decide +kernel
theorem dX12_reads_27 : decode cX12_reads 27 = .ok (.iload_n 1, 1) := by decide +kernel
theorem dX12_reads_28 : decode cX12_reads 28 = .ok (.iload_n 3, 1) := by decide +kernel
theorem dX12_reads_29 : decode cX12_reads 29 = .ok (.invokevirtual 299, 3) := by decide +kernel
theorem dX12_reads_32 : decode cX12_reads 32 = .ok (.ifCond .eq 33, 3) := by decide +kernel
theorem dX12_reads_35 : decode cX12_reads 35 = .ok (.iload 5, 2) := by decide +kernel
theorem dX12_reads_37 : decode cX12_reads 37 = .ok (.ifCond .ne 4, 3) := by decide +kernel
theorem dX12_reads_40 : decode cX12_reads 40 = .ok (.return_, 1) := by decide +kernel
theorem dX12_reads_41 : decode cX12_reads 41 = .ok (.aload_n 0, 1) := by decide +kernel
theorem dX12_reads_42 : decode cX12_reads 42 = .ok (.dup, 1) := by decide +kernel
theorem dX12_reads_43 : decode cX12_reads 43 = .ok (.getfield 280, 3) := by decide +kernel
theorem dX12_reads_46 : decode cX12_reads 46 = .ok (.iconst 1, 1) := by decide +kernel
theorem dX12_reads_47 : decode cX12_reads 47 = .ok (.iadd, 1) := by decide +kernel
theorem dX12_reads_48 : decode cX12_reads 48 = .ok (.putfield 280, 3) := by decide +kernel
theorem dX12_reads_51 : decode cX12_reads 51 = .ok (.aload_n 0, 1) := by decide +kernel
theorem dX12_reads_52 : decode cX12_reads 52 = .ok (.iload_n 1, 1) := by decide +kernel
theorem dX12_reads_53 : decode cX12_reads 53 = .ok (.iload_n 3, 1) := by decide +kernel
theorem dX12_reads_54 : decode cX12_reads 54 = .ok (.invokevirtual 293, 3) := by decide +kernel
theorem dX12_reads_57 : decode cX12_reads 57 = .ok (.aload_n 0, 1) := by decide +kernel
theorem dX12_reads_58 : decode cX12_reads 58 = .ok (.iload_n 1, 1) := by decide +kernel
theorem dX12_reads_59 : decode cX12_reads 59 = .ok (.iload_n 3, 1) := by decide +kernel
theorem dX12_reads_60 : decode cX12_reads 60 = .ok (.iconst 1, 1) := by decide +kernel
theorem dX12_reads_61 : decode cX12_reads 61 = .ok (.invokevirtual 283, 3) := by decide +kernel
theorem dX12_reads_64 : decode cX12_reads 64 = .ok (.return_, 1) := by decide +kernel
theorem dX12_reads_65 : decode cX12_reads 65 = .ok (.iload 5, 2) := by decide +kernel
theorem dX12_reads_67 : decode cX12_reads 67 = .ok (.ifCond .ne 16, 3) := by decide +kernel
theorem dX12_reads_70 : decode cX12_reads 70 = .ok (.aload_n 0, 1) := by decide +kernel
theorem dX12_reads_71 : decode cX12_reads 71 = .ok (.getfield 17, 3) := by decide +kernel
theorem dX12_reads_74 : decode cX12_reads 74 = .ok (.bipush 38, 2) := by decide +kernel
theorem dX12_reads_76 : decode cX12_reads 76 = .ok (.iload_n 1, 1) := by decide +kernel
theorem dX12_reads_77 : decode cX12_reads 77 = .ok (.iadd, 1) := by decide +kernel
theorem dX12_reads_78 : decode cX12_reads 78 = .ok (.iaload, 1) := by decide +kernel
theorem dX12_reads_79 : decode cX12_reads 79 = .ok (.iconst 1, 1) := by decide +kernel
theorem dX12_reads_80 : decode cX12_reads 80 = .ok (.if_icmp .ne 31, 3) := by decide +kernel
theorem dX12_reads_83 : decode cX12_reads 83 = .ok (.aload_n 0, 1) := by decide +kernel
theorem dX12_reads_84 : decode cX12_reads 84 = .ok (.getfield 27, 3) := by decide +kernel
theorem dX12_reads_87 : decode cX12_reads 87 = .ok (.bipush 100, 2) := by decide +kernel
theorem dX12_reads_89 : decode cX12_reads 89 = .ok (.iload 4, 2) := by decide +kernel
theorem dX12_reads_91 : decode cX12_reads 91 = .ok (.iadd, 1) := by decide +kernel
theorem dX12_reads_92 : decode cX12_reads 92 = .ok (.iconst 0, 1) := by decide +kernel
theorem dX12_reads_93 : decode cX12_reads 93 = .ok (.iastore, 1) := by decide +kernel
theorem dX12_reads_94 : decode cX12_reads 94 = .ok (.aload_n 0, 1) := by decide +kernel
theorem dX12_reads_95 : decode cX12_reads 95 = .ok (.getfield 27, 3) := by decide +kernel
theorem dX12_reads_98 : decode cX12_reads 98 = .ok (.bipush 70, 2) := by decide +kernel
theorem dX12_reads_100 : decode cX12_reads 100 = .ok (.iload 4, 2) := by decide +kernel
theorem dX12_reads_102 : decode cX12_reads 102 = .ok (.iadd, 1) := by decide +kernel
theorem dX12_reads_103 : decode cX12_reads 103 = .ok (.aload_n 0, 1) := by decide +kernel
theorem dX12_reads_104 : decode cX12_reads 104 = .ok (.iload_n 1, 1) := by decide +kernel
theorem dX12_reads_105 : decode cX12_reads 105 = .ok (.iload_n 3, 1) := by decide +kernel
theorem dX12_reads_106 : decode cX12_reads 106 = .ok (.invokevirtual 277, 3) := by decide +kernel
theorem dX12_reads_109 : decode cX12_reads 109 = .ok (.iastore, 1) := by decide +kernel
theorem dX12_reads_110 : decode cX12_reads 110 = .ok (.return_, 1) := by decide +kernel
theorem dX12_reads_111 : decode cX12_reads 111 = .ok (.aload_n 0, 1) := by decide +kernel
theorem dX12_reads_112 : decode cX12_reads 112 = .ok (.getfield 27, 3) := by decide +kernel
theorem dX12_reads_115 : decode cX12_reads 115 = .ok (.bipush 100, 2) := by decide +kernel
theorem dX12_reads_117 : decode cX12_reads 117 = .ok (.iload 4, 2) := by decide +kernel
theorem dX12_reads_119 : decode cX12_reads 119 = .ok (.iadd, 1) := by decide +kernel
theorem dX12_reads_120 : decode cX12_reads 120 = .ok (.iaload, 1) := by decide +kernel
theorem dX12_reads_121 : decode cX12_reads 121 = .ok (.ifCond .ne 21, 3) := by decide +kernel
theorem dX12_reads_124 : decode cX12_reads 124 = .ok (.aload_n 0, 1) := by decide +kernel
theorem dX12_reads_125 : decode cX12_reads 125 = .ok (.getfield 27, 3) := by decide +kernel
theorem dX12_reads_128 : decode cX12_reads 128 = .ok (.bipush 100, 2) := by decide +kernel
theorem dX12_reads_130 : decode cX12_reads 130 = .ok (.iload 4, 2) := by decide +kernel
theorem dX12_reads_132 : decode cX12_reads 132 = .ok (.iadd, 1) := by decide +kernel
theorem dX12_reads_133 : decode cX12_reads 133 = .ok (.aload_n 0, 1) := by decide +kernel
theorem dX12_reads_134 : decode cX12_reads 134 = .ok (.getfield 27, 3) := by decide +kernel
theorem dX12_reads_137 : decode cX12_reads 137 = .ok (.iconst 0, 1) := by decide +kernel
theorem dX12_reads_138 : decode cX12_reads 138 = .ok (.iaload, 1) := by decide +kernel
theorem dX12_reads_139 : decode cX12_reads 139 = .ok (.iconst 1, 1) := by decide +kernel
theorem dX12_reads_140 : decode cX12_reads 140 = .ok (.iadd, 1) := by decide +kernel
theorem dX12_reads_141 : decode cX12_reads 141 = .ok (.iastore, 1) := by decide +kernel
theorem dX12_reads_142 : decode cX12_reads 142 = .ok (.aload_n 0, 1) := by decide +kernel
theorem dX12_reads_143 : decode cX12_reads 143 = .ok (.getfield 27, 3) := by decide +kernel
theorem dX12_reads_146 : decode cX12_reads 146 = .ok (.iconst 0, 1) := by decide +kernel
theorem dX12_reads_147 : decode cX12_reads 147 = .ok (.iaload, 1) := by decide +kernel
theorem dX12_reads_148 : decode cX12_reads 148 = .ok (.aload_n 0, 1) := by decide +kernel
theorem dX12_reads_149 : decode cX12_reads 149 = .ok (.getfield 27, 3) := by decide +kernel
theorem dX12_reads_152 : decode cX12_reads 152 = .ok (.bipush 100, 2) := by decide +kernel
theorem dX12_reads_154 : decode cX12_reads 154 = .ok (.iload 4, 2) := by decide +kernel
theorem dX12_reads_156 : decode cX12_reads 156 = .ok (.iadd, 1) := by decide +kernel
theorem dX12_reads_157 : decode cX12_reads 157 = .ok (.iaload, 1) := by decide +kernel
theorem dX12_reads_158 : decode cX12_reads 158 = .ok (.iconst 1, 1) := by decide +kernel
theorem dX12_reads_159 : decode cX12_reads 159 = .ok (.isub, 1) := by decide +kernel
theorem dX12_reads_160 : decode cX12_reads 160 = .ok (.isub, 1) := by decide +kernel
theorem dX12_reads_161 : decode cX12_reads 161 = .ok (.aload_n 0, 1) := by decide +kernel
theorem dX12_reads_162 : decode cX12_reads 162 = .ok (.getfield 17, 3) := by decide +kernel
theorem dX12_reads_165 : decode cX12_reads 165 = .ok (.bipush 33, 2) := by decide +kernel
theorem dX12_reads_167 : decode cX12_reads 167 = .ok (.iload_n 1, 1) := by decide +kernel
theorem dX12_reads_168 : decode cX12_reads 168 = .ok (.iadd, 1) := by decide +kernel
theorem dX12_reads_169 : decode cX12_reads 169 = .ok (.iaload, 1) := by decide +kernel
theorem dX12_reads_170 : decode cX12_reads 170 = .ok (.if_icmp .lt 12, 3) := by decide +kernel
theorem dX12_reads_173 : decode cX12_reads 173 = .ok (.aload_n 0, 1) := by decide +kernel
theorem dX12_reads_174 : decode cX12_reads 174 = .ok (.iload_n 1, 1) := by decide +kernel
theorem dX12_reads_175 : decode cX12_reads 175 = .ok (.iload_n 3, 1) := by decide +kernel
theorem dX12_reads_176 : decode cX12_reads 176 = .ok (.invokevirtual 290, 3) := by decide +kernel
theorem dX12_reads_179 : decode cX12_reads 179 = .ok (.goto 19, 3) := by decide +kernel
theorem dX12_reads_182 : decode cX12_reads 182 = .ok (.aload_n 0, 1) := by decide +kernel
theorem dX12_reads_183 : decode cX12_reads 183 = .ok (.getfield 27, 3) := by decide +kernel
theorem dX12_reads_186 : decode cX12_reads 186 = .ok (.bipush 70, 2) := by decide +kernel
theorem dX12_reads_188 : decode cX12_reads 188 = .ok (.iload 4, 2) := by decide +kernel
theorem dX12_reads_190 : decode cX12_reads 190 = .ok (.iadd, 1) := by decide +kernel
theorem dX12_reads_191 : decode cX12_reads 191 = .ok (.aload_n 0, 1) := by decide +kernel
theorem dX12_reads_192 : decode cX12_reads 192 = .ok (.iload_n 1, 1) := by decide +kernel
theorem dX12_reads_193 : decode cX12_reads 193 = .ok (.iload_n 3, 1) := by decide +kernel
theorem dX12_reads_194 : decode cX12_reads 194 = .ok (.invokevirtual 277, 3) := by decide +kernel
theorem dX12_reads_197 : decode cX12_reads 197 = .ok (.iastore, 1) := by decide +kernel
theorem dX12_reads_198 : decode cX12_reads 198 = .ok (.return_, 1) := by decide +kernel
theorem dX12_groupGoes_0 : decode cX12_groupGoes 0 = .ok (.iconst 0, 1) := by decide +kernel
theorem dX12_groupGoes_1 : decode cX12_groupGoes 1 = .ok (.istore_n 2, 1) := by decide +kernel
theorem dX12_groupGoes_2 : decode cX12_groupGoes 2 = .ok (.iload_n 2, 1) := by decide +kernel
theorem dX12_groupGoes_3 : decode cX12_groupGoes 3 = .ok (.aload_n 0, 1) := by decide +kernel
theorem dX12_groupGoes_4 : decode cX12_groupGoes 4 = .ok (.invokevirtual 256, 3) := by decide +kernel
theorem dX12_groupGoes_7 : decode cX12_groupGoes 7 = .ok (.if_icmp .ge 38, 3) := by decide +kernel
theorem dX12_groupGoes_10 : decode cX12_groupGoes 10 = .ok (.aload_n 0, 1) := by decide +kernel
theorem dX12_groupGoes_11 : decode cX12_groupGoes 11 = .ok (.getfield 37, 3) := by decide +kernel
theorem dX12_groupGoes_14 : decode cX12_groupGoes 14 = .ok (.iload_n 2, 1) := by decide +kernel
theorem dX12_groupGoes_15 : decode cX12_groupGoes 15 = .ok (.iconst 0, 1) := by decide +kernel
theorem dX12_groupGoes_16 : decode cX12_groupGoes 16 = .ok (.iastore, 1) := by decide +kernel
theorem dX12_groupGoes_17 : decode cX12_groupGoes 17 = .ok (.aload_n 0, 1) := by decide +kernel
theorem dX12_groupGoes_18 : decode cX12_groupGoes 18 = .ok (.getfield 27, 3) := by decide +kernel
theorem dX12_groupGoes_21 : decode cX12_groupGoes 21 = .ok (.bipush 40, 2) := by decide +kernel
theorem dX12_groupGoes_23 : decode cX12_groupGoes 23 = .ok (.iload_n 1, 1) := by decide +kernel
theorem dX12_groupGoes_24 : decode cX12_groupGoes 24 = .ok (.iload_n 2, 1) := by decide +kernel
theorem dX12_groupGoes_25 : decode cX12_groupGoes 25 = .ok (.invokestatic 190, 3) := by decide +kernel
theorem dX12_groupGoes_28 : decode cX12_groupGoes 28 = .ok (.iadd, 1) := by decide +kernel
theorem dX12_groupGoes_29 : decode cX12_groupGoes 29 = .ok (.iaload, 1) := by decide +kernel
theorem dX12_groupGoes_30 : decode cX12_groupGoes 30 = .ok (.ifCond .eq 9, 3) := by decide +kernel
theorem dX12_groupGoes_33 : decode cX12_groupGoes 33 = .ok (.aload_n 0, 1) := by decide +kernel
theorem dX12_groupGoes_34 : decode cX12_groupGoes 34 = .ok (.iload_n 1, 1) := by decide +kernel
theorem dX12_groupGoes_35 : decode cX12_groupGoes 35 = .ok (.iload_n 2, 1) := by decide +kernel
theorem dX12_groupGoes_36 : decode cX12_groupGoes 36 = .ok (.invokevirtual 329, 3) := by decide +kernel
theorem dX12_groupGoes_39 : decode cX12_groupGoes 39 = .ok (.iinc 2 1, 3) := by decide +kernel
theorem dX12_groupGoes_42 : decode cX12_groupGoes 42 = .ok (.goto (-40), 3) := by decide +kernel
theorem dX12_groupGoes_45 : decode cX12_groupGoes 45 = .ok (.iconst 0, 1) := by decide +kernel
theorem dX12_groupGoes_46 : decode cX12_groupGoes 46 = .ok (.istore_n 2, 1) := by decide +kernel
theorem dX12_groupGoes_47 : decode cX12_groupGoes 47 = .ok (.iload_n 2, 1) := by decide +kernel
theorem dX12_groupGoes_48 : decode cX12_groupGoes 48 = .ok (.aload_n 0, 1) := by decide +kernel
theorem dX12_groupGoes_49 : decode cX12_groupGoes 49 = .ok (.invokevirtual 256, 3) := by decide +kernel
theorem dX12_groupGoes_52 : decode cX12_groupGoes 52 = .ok (.if_icmp .ge 42, 3) := by decide +kernel
theorem dX12_groupGoes_55 : decode cX12_groupGoes 55 = .ok (.aload_n 0, 1) := by decide +kernel
theorem dX12_groupGoes_56 : decode cX12_groupGoes 56 = .ok (.getfield 27, 3) := by decide +kernel
theorem dX12_groupGoes_59 : decode cX12_groupGoes 59 = .ok (.bipush 40, 2) := by decide +kernel
theorem dX12_groupGoes_61 : decode cX12_groupGoes 61 = .ok (.iload_n 1, 1) := by decide +kernel
theorem dX12_groupGoes_62 : decode cX12_groupGoes 62 = .ok (.iload_n 2, 1) := by decide +kernel
theorem dX12_groupGoes_63 : decode cX12_groupGoes 63 = .ok (.invokestatic 190, 3) := by decide +kernel
theorem dX12_groupGoes_66 : decode cX12_groupGoes 66 = .ok (.iadd, 1) := by decide +kernel
theorem dX12_groupGoes_67 : decode cX12_groupGoes 67 = .ok (.iaload, 1) := by decide +kernel
theorem dX12_groupGoes_68 : decode cX12_groupGoes 68 = .ok (.ifCond .eq 20, 3) := by decide +kernel
theorem dX12_groupGoes_71 : decode cX12_groupGoes 71 = .ok (.aload_n 0, 1) := by decide +kernel
theorem dX12_groupGoes_72 : decode cX12_groupGoes 72 = .ok (.getfield 27, 3) := by decide +kernel
theorem dX12_groupGoes_75 : decode cX12_groupGoes 75 = .ok (.bipush 70, 2) := by decide +kernel
theorem dX12_groupGoes_77 : decode cX12_groupGoes 77 = .ok (.iload_n 1, 1) := by decide +kernel
theorem dX12_groupGoes_78 : decode cX12_groupGoes 78 = .ok (.iload_n 2, 1) := by decide +kernel
theorem dX12_groupGoes_79 : decode cX12_groupGoes 79 = .ok (.invokestatic 190, 3) := by decide +kernel
theorem dX12_groupGoes_82 : decode cX12_groupGoes 82 = .ok (.iadd, 1) := by decide +kernel
theorem dX12_groupGoes_83 : decode cX12_groupGoes 83 = .ok (.dup2, 1) := by decide +kernel
theorem dX12_groupGoes_84 : decode cX12_groupGoes 84 = .ok (.iaload, 1) := by decide +kernel
theorem dX12_groupGoes_85 : decode cX12_groupGoes 85 = .ok (.iconst 1, 1) := by decide +kernel
theorem dX12_groupGoes_86 : decode cX12_groupGoes 86 = .ok (.isub, 1) := by decide +kernel
theorem dX12_groupGoes_87 : decode cX12_groupGoes 87 = .ok (.iastore, 1) := by decide +kernel
theorem dX12_groupGoes_88 : decode cX12_groupGoes 88 = .ok (.iinc 2 1, 3) := by decide +kernel
theorem dX12_groupGoes_91 : decode cX12_groupGoes 91 = .ok (.goto (-44), 3) := by decide +kernel
theorem dX12_groupGoes_94 : decode cX12_groupGoes 94 = .ok (.iconst 0, 1) := by decide +kernel
theorem dX12_groupGoes_95 : decode cX12_groupGoes 95 = .ok (.istore_n 2, 1) := by decide +kernel
theorem dX12_groupGoes_96 : decode cX12_groupGoes 96 = .ok (.iload_n 2, 1) := by decide +kernel
theorem dX12_groupGoes_97 : decode cX12_groupGoes 97 = .ok (.aload_n 0, 1) := by decide +kernel
theorem dX12_groupGoes_98 : decode cX12_groupGoes 98 = .ok (.invokevirtual 256, 3) := by decide +kernel
theorem dX12_groupGoes_101 : decode cX12_groupGoes 101 = .ok (.if_icmp .ge 81, 3) := by decide +kernel
theorem dX12_groupGoes_104 : decode cX12_groupGoes 104 = .ok (.aload_n 0, 1) := by decide +kernel
theorem dX12_groupGoes_105 : decode cX12_groupGoes 105 = .ok (.getfield 37, 3) := by decide +kernel
theorem dX12_groupGoes_108 : decode cX12_groupGoes 108 = .ok (.iload_n 2, 1) := by decide +kernel
theorem dX12_groupGoes_109 : decode cX12_groupGoes 109 = .ok (.iaload, 1) := by decide +kernel
theorem dX12_groupGoes_110 : decode cX12_groupGoes 110 = .ok (.ifCond .ne 6, 3) := by decide +kernel
theorem dX12_groupGoes_113 : decode cX12_groupGoes 113 = .ok (.goto 63, 3) := by decide +kernel
theorem dX12_groupGoes_116 : decode cX12_groupGoes 116 = .ok (.iconst 0, 1) := by decide +kernel
theorem dX12_groupGoes_117 : decode cX12_groupGoes 117 = .ok (.istore_n 3, 1) := by decide +kernel
theorem dX12_groupGoes_118 : decode cX12_groupGoes 118 = .ok (.iload_n 3, 1) := by decide +kernel
theorem dX12_groupGoes_119 : decode cX12_groupGoes 119 = .ok (.aload_n 0, 1) := by decide +kernel
theorem dX12_groupGoes_120 : decode cX12_groupGoes 120 = .ok (.invokevirtual 256, 3) := by decide +kernel
theorem dX12_groupGoes_123 : decode cX12_groupGoes 123 = .ok (.if_icmp .ge 53, 3) := by decide +kernel
theorem dX12_groupGoes_126 : decode cX12_groupGoes 126 = .ok (.iload_n 3, 1) := by decide +kernel
theorem dX12_groupGoes_127 : decode cX12_groupGoes 127 = .ok (.iload_n 2, 1) := by decide +kernel
theorem dX12_groupGoes_128 : decode cX12_groupGoes 128 = .ok (.if_icmp .eq 42, 3) := by decide +kernel
theorem dX12_groupGoes_131 : decode cX12_groupGoes 131 = .ok (.aload_n 0, 1) := by decide +kernel
theorem dX12_groupGoes_132 : decode cX12_groupGoes 132 = .ok (.getfield 27, 3) := by decide +kernel
theorem dX12_groupGoes_135 : decode cX12_groupGoes 135 = .ok (.bipush 40, 2) := by decide +kernel
theorem dX12_groupGoes_137 : decode cX12_groupGoes 137 = .ok (.iload_n 1, 1) := by decide +kernel
theorem dX12_groupGoes_138 : decode cX12_groupGoes 138 = .ok (.iload_n 3, 1) := by decide +kernel
theorem dX12_groupGoes_139 : decode cX12_groupGoes 139 = .ok (.invokestatic 190, 3) := by decide +kernel
theorem dX12_groupGoes_142 : decode cX12_groupGoes 142 = .ok (.iadd, 1) := by decide +kernel
theorem dX12_groupGoes_143 : decode cX12_groupGoes 143 = .ok (.iaload, 1) := by decide +kernel
theorem dX12_groupGoes_144 : decode cX12_groupGoes 144 = .ok (.ifCond .eq 26, 3) := by decide +kernel
theorem dX12_groupGoes_147 : decode cX12_groupGoes 147 = .ok (.aload_n 0, 1) := by decide +kernel
theorem dX12_groupGoes_148 : decode cX12_groupGoes 148 = .ok (.iload_n 2, 1) := by decide +kernel
theorem dX12_groupGoes_149 : decode cX12_groupGoes 149 = .ok (.iload_n 3, 1) := by decide +kernel
theorem dX12_groupGoes_150 : decode cX12_groupGoes 150 = .ok (.invokevirtual 296, 3) := by decide +kernel
theorem dX12_groupGoes_153 : decode cX12_groupGoes 153 = .ok (.ifCond .eq 17, 3) := by decide +kernel
theorem dX12_groupGoes_156 : decode cX12_groupGoes 156 = .ok (.aload_n 0, 1) := by decide +kernel
theorem dX12_groupGoes_157 : decode cX12_groupGoes 157 = .ok (.invokevirtual 332, 3) := by decide +kernel
theorem dX12_groupGoes_160 : decode cX12_groupGoes 160 = .ok (.ifCond .ne 10, 3) := by decide +kernel
theorem dX12_groupGoes_163 : decode cX12_groupGoes 163 = .ok (.aload_n 0, 1) := by decide +kernel
theorem dX12_groupGoes_164 : decode cX12_groupGoes 164 = .ok (.iload_n 1, 1) := by decide +kernel
theorem dX12_groupGoes_165 : decode cX12_groupGoes 165 = .ok (.iload_n 2, 1) := by decide +kernel
theorem dX12_groupGoes_166 : decode cX12_groupGoes 166 = .ok (.iload_n 3, 1) := by decide +kernel
theorem dX12_groupGoes_167 : decode cX12_groupGoes 167 = .ok (.invokevirtual 335, 3) := by decide +kernel
theorem dX12_groupGoes_170 : decode cX12_groupGoes 170 = .ok (.iinc 3 1, 3) := by decide +kernel
theorem dX12_groupGoes_173 : decode cX12_groupGoes 173 = .ok (.goto (-55), 3) := by decide +kernel
theorem dX12_groupGoes_176 : decode cX12_groupGoes 176 = .ok (.iinc 2 1, 3) := by decide +kernel
theorem dX12_groupGoes_179 : decode cX12_groupGoes 179 = .ok (.goto (-83), 3) := by decide +kernel
theorem dX12_groupGoes_182 : decode cX12_groupGoes 182 = .ok (.return_, 1) := by decide +kernel
theorem dX12_bitsOf_0 : decode cX12_bitsOf 0 = .ok (.iconst 0, 1) := by decide +kernel
theorem dX12_bitsOf_1 : decode cX12_bitsOf 1 = .ok (.istore_n 3, 1) := by decide +kernel
theorem dX12_bitsOf_2 : decode cX12_bitsOf 2 = .ok (.iconst 0, 1) := by decide +kernel
theorem dX12_bitsOf_3 : decode cX12_bitsOf 3 = .ok (.istore 4, 2) := by decide +kernel
theorem dX12_bitsOf_5 : decode cX12_bitsOf 5 = .ok (.iload 4, 2) := by decide +kernel
theorem dX12_bitsOf_7 : decode cX12_bitsOf 7 = .ok (.aload_n 0, 1) := by decide +kernel
theorem dX12_bitsOf_8 : decode cX12_bitsOf 8 = .ok (.invokevirtual 256, 3) := by decide +kernel
theorem dX12_bitsOf_11 : decode cX12_bitsOf 11 = .ok (.if_icmp .ge 34, 3) := by decide +kernel
theorem dX12_bitsOf_14 : decode cX12_bitsOf 14 = .ok (.aload_n 0, 1) := by decide +kernel
theorem dX12_bitsOf_15 : decode cX12_bitsOf 15 = .ok (.getfield 27, 3) := by decide +kernel
theorem dX12_bitsOf_18 : decode cX12_bitsOf 18 = .ok (.bipush 40, 2) := by decide +kernel
theorem dX12_bitsOf_20 : decode cX12_bitsOf 20 = .ok (.iload_n 1, 1) := by decide +kernel
theorem dX12_bitsOf_21 : decode cX12_bitsOf 21 = .ok (.iload 4, 2) := by decide +kernel
theorem dX12_bitsOf_23 : decode cX12_bitsOf 23 = .ok (.invokestatic 190, 3) := by decide +kernel
theorem dX12_bitsOf_26 : decode cX12_bitsOf 26 = .ok (.iadd, 1) := by decide +kernel
theorem dX12_bitsOf_27 : decode cX12_bitsOf 27 = .ok (.iaload, 1) := by decide +kernel
theorem dX12_bitsOf_28 : decode cX12_bitsOf 28 = .ok (.iload_n 2, 1) := by decide +kernel
theorem dX12_bitsOf_29 : decode cX12_bitsOf 29 = .ok (.if_icmp .lt 10, 3) := by decide +kernel
theorem dX12_bitsOf_32 : decode cX12_bitsOf 32 = .ok (.iload_n 3, 1) := by decide +kernel
theorem dX12_bitsOf_33 : decode cX12_bitsOf 33 = .ok (.iconst 1, 1) := by decide +kernel
theorem dX12_bitsOf_34 : decode cX12_bitsOf 34 = .ok (.iload 4, 2) := by decide +kernel
theorem dX12_bitsOf_36 : decode cX12_bitsOf 36 = .ok (.ishl, 1) := by decide +kernel
theorem dX12_bitsOf_37 : decode cX12_bitsOf 37 = .ok (.ior, 1) := by decide +kernel
theorem dX12_bitsOf_38 : decode cX12_bitsOf 38 = .ok (.istore_n 3, 1) := by decide +kernel
theorem dX12_bitsOf_39 : decode cX12_bitsOf 39 = .ok (.iinc 4 1, 3) := by decide +kernel
theorem dX12_bitsOf_42 : decode cX12_bitsOf 42 = .ok (.goto (-37), 3) := by decide +kernel
theorem dX12_bitsOf_45 : decode cX12_bitsOf 45 = .ok (.iload_n 3, 1) := by decide +kernel
theorem dX12_bitsOf_46 : decode cX12_bitsOf 46 = .ok (.ireturn, 1) := by decide +kernel
theorem dX12_bits_0 : decode cX12_bits 0 = .ok (.iconst 0, 1) := by decide +kernel
theorem dX12_bits_1 : decode cX12_bits 1 = .ok (.istore_n 1, 1) := by decide +kernel
theorem dX12_bits_2 : decode cX12_bits 2 = .ok (.iload_n 0, 1) := by decide +kernel
theorem dX12_bits_3 : decode cX12_bits 3 = .ok (.istore_n 2, 1) := by decide +kernel
theorem dX12_bits_4 : decode cX12_bits 4 = .ok (.iload_n 2, 1) := by decide +kernel
theorem dX12_bits_5 : decode cX12_bits 5 = .ok (.ifCond .eq 15, 3) := by decide +kernel
theorem dX12_bits_8 : decode cX12_bits 8 = .ok (.iinc 1 1, 3) := by decide +kernel
theorem dX12_bits_11 : decode cX12_bits 11 = .ok (.iload_n 2, 1) := by decide +kernel
theorem dX12_bits_12 : decode cX12_bits 12 = .ok (.iload_n 2, 1) := by decide +kernel
theorem dX12_bits_13 : decode cX12_bits 13 = .ok (.iconst 1, 1) := by decide +kernel
theorem dX12_bits_14 : decode cX12_bits 14 = .ok (.isub, 1) := by decide +kernel
theorem dX12_bits_15 : decode cX12_bits 15 = .ok (.iand, 1) := by decide +kernel
theorem dX12_bits_16 : decode cX12_bits 16 = .ok (.istore_n 2, 1) := by decide +kernel
theorem dX12_bits_17 : decode cX12_bits 17 = .ok (.goto (-13), 3) := by decide +kernel
theorem dX12_bits_20 : decode cX12_bits 20 = .ok (.iload_n 1, 1) := by decide +kernel
theorem dX12_bits_21 : decode cX12_bits 21 = .ok (.ireturn, 1) := by decide +kernel
theorem dX12_isOrphan_0 : decode cX12_isOrphan 0 = .ok (.aload_n 0, 1) := by decide +kernel
theorem dX12_isOrphan_1 : decode cX12_isOrphan 1 = .ok (.iload_n 1, 1) := by decide +kernel
theorem dX12_isOrphan_2 : decode cX12_isOrphan 2 = .ok (.iconst 1, 1) := by decide +kernel
theorem dX12_isOrphan_3 : decode cX12_isOrphan 3 = .ok (.invokevirtual 338, 3) := by decide +kernel
theorem dX12_isOrphan_6 : decode cX12_isOrphan 6 = .ok (.ifCond .eq 16, 3) := by decide +kernel
theorem dX12_isOrphan_9 : decode cX12_isOrphan 9 = .ok (.aload_n 0, 1) := by decide +kernel
theorem dX12_isOrphan_10 : decode cX12_isOrphan 10 = .ok (.iload_n 1, 1) := by decide +kernel
theorem dX12_isOrphan_11 : decode cX12_isOrphan 11 = .ok (.iconst 2, 1) := by decide +kernel
theorem dX12_isOrphan_12 : decode cX12_isOrphan 12 = .ok (.invokevirtual 338, 3) := by decide +kernel
theorem dX12_isOrphan_15 : decode cX12_isOrphan 15 = .ok (.ifCond .ne 7, 3) := by decide +kernel
theorem dX12_isOrphan_18 : decode cX12_isOrphan 18 = .ok (.iconst 1, 1) := by decide +kernel
theorem dX12_isOrphan_19 : decode cX12_isOrphan 19 = .ok (.goto 4, 3) := by decide +kernel
theorem dX12_isOrphan_22 : decode cX12_isOrphan 22 = .ok (.iconst 0, 1) := by decide +kernel
theorem dX12_isOrphan_23 : decode cX12_isOrphan 23 = .ok (.ireturn, 1) := by decide +kernel
theorem dX12_isDouble_0 : decode cX12_isDouble 0 = .ok (.aload_n 0, 1) := by decide +kernel
theorem dX12_isDouble_1 : decode cX12_isDouble 1 = .ok (.iload_n 1, 1) := by decide +kernel
theorem dX12_isDouble_2 : decode cX12_isDouble 2 = .ok (.iconst 2, 1) := by decide +kernel
theorem dX12_isDouble_3 : decode cX12_isDouble 3 = .ok (.invokevirtual 338, 3) := by decide +kernel
theorem dX12_isDouble_6 : decode cX12_isDouble 6 = .ok (.istore_n 2, 1) := by decide +kernel
theorem dX12_isDouble_7 : decode cX12_isDouble 7 = .ok (.iload_n 2, 1) := by decide +kernel
theorem dX12_isDouble_8 : decode cX12_isDouble 8 = .ok (.aload_n 0, 1) := by decide +kernel
theorem dX12_isDouble_9 : decode cX12_isDouble 9 = .ok (.getfield 27, 3) := by decide +kernel
theorem dX12_isDouble_12 : decode cX12_isDouble 12 = .ok (.iconst 3, 1) := by decide +kernel
theorem dX12_isDouble_13 : decode cX12_isDouble 13 = .ok (.iaload, 1) := by decide +kernel
theorem dX12_isDouble_14 : decode cX12_isDouble 14 = .ok (.iand, 1) := by decide +kernel
theorem dX12_isDouble_15 : decode cX12_isDouble 15 = .ok (.invokestatic 341, 3) := by decide +kernel
theorem dX12_isDouble_18 : decode cX12_isDouble 18 = .ok (.iconst 1, 1) := by decide +kernel
theorem dX12_isDouble_19 : decode cX12_isDouble 19 = .ok (.if_icmp .gt 20, 3) := by decide +kernel
theorem dX12_isDouble_22 : decode cX12_isDouble 22 = .ok (.iload_n 2, 1) := by decide +kernel
theorem dX12_isDouble_23 : decode cX12_isDouble 23 = .ok (.aload_n 0, 1) := by decide +kernel
theorem dX12_isDouble_24 : decode cX12_isDouble 24 = .ok (.getfield 27, 3) := by decide +kernel
theorem dX12_isDouble_27 : decode cX12_isDouble 27 = .ok (.iconst 3, 1) := by decide +kernel
theorem dX12_isDouble_28 : decode cX12_isDouble 28 = .ok (.iaload, 1) := by decide +kernel
theorem dX12_isDouble_29 : decode cX12_isDouble 29 = .ok (.iconst (-1), 1) := by decide +kernel
theorem dX12_isDouble_30 : decode cX12_isDouble 30 = .ok (.ixor, 1) := by decide +kernel
theorem dX12_isDouble_31 : decode cX12_isDouble 31 = .ok (.iand, 1) := by decide +kernel
theorem dX12_isDouble_32 : decode cX12_isDouble 32 = .ok (.invokestatic 341, 3) := by decide +kernel
theorem dX12_isDouble_35 : decode cX12_isDouble 35 = .ok (.iconst 1, 1) := by decide +kernel
theorem dX12_isDouble_36 : decode cX12_isDouble 36 = .ok (.if_icmp .le 7, 3) := by decide +kernel
theorem dX12_isDouble_39 : decode cX12_isDouble 39 = .ok (.iconst 1, 1) := by decide +kernel
theorem dX12_isDouble_40 : decode cX12_isDouble 40 = .ok (.goto 4, 3) := by decide +kernel
theorem dX12_isDouble_43 : decode cX12_isDouble 43 = .ok (.iconst 0, 1) := by decide +kernel
theorem dX12_isDouble_44 : decode cX12_isDouble 44 = .ok (.ireturn, 1) := by decide +kernel
theorem dX12_tickGoes_0 : decode cX12_tickGoes 0 = .ok (.iconst 0, 1) := by decide +kernel
theorem dX12_tickGoes_1 : decode cX12_tickGoes 1 = .ok (.istore_n 1, 1) := by decide +kernel
theorem dX12_tickGoes_2 : decode cX12_tickGoes 2 = .ok (.iload_n 1, 1) := by decide +kernel
theorem dX12_tickGoes_3 : decode cX12_tickGoes 3 = .ok (.aload_n 0, 1) := by decide +kernel
theorem dX12_tickGoes_4 : decode cX12_tickGoes 4 = .ok (.getfield 27, 3) := by decide +kernel
theorem dX12_tickGoes_7 : decode cX12_tickGoes 7 = .ok (.bipush 8, 2) := by decide +kernel
theorem dX12_tickGoes_9 : decode cX12_tickGoes 9 = .ok (.iaload, 1) := by decide +kernel
theorem dX12_tickGoes_10 : decode cX12_tickGoes 10 = .ok (.if_icmp .ge 35, 3) := by decide +kernel
theorem dX12_tickGoes_13 : decode cX12_tickGoes 13 = .ok (.aload_n 0, 1) := by decide +kernel
theorem dX12_tickGoes_14 : decode cX12_tickGoes 14 = .ok (.getfield 27, 3) := by decide +kernel
theorem dX12_tickGoes_17 : decode cX12_tickGoes 17 = .ok (.sipush 145, 3) := by decide +kernel
theorem dX12_tickGoes_20 : decode cX12_tickGoes 20 = .ok (.iconst 5, 1) := by decide +kernel
theorem dX12_tickGoes_21 : decode cX12_tickGoes 21 = .ok (.iload_n 1, 1) := by decide +kernel
theorem dX12_tickGoes_22 : decode cX12_tickGoes 22 = .ok (.imul, 1) := by decide +kernel
theorem dX12_tickGoes_23 : decode cX12_tickGoes 23 = .ok (.iadd, 1) := by decide +kernel
theorem dX12_tickGoes_24 : decode cX12_tickGoes 24 = .ok (.iaload, 1) := by decide +kernel
theorem dX12_tickGoes_25 : decode cX12_tickGoes 25 = .ok (.aload_n 0, 1) := by decide +kernel
theorem dX12_tickGoes_26 : decode cX12_tickGoes 26 = .ok (.getfield 27, 3) := by decide +kernel
theorem dX12_tickGoes_29 : decode cX12_tickGoes 29 = .ok (.iconst 0, 1) := by decide +kernel
theorem dX12_tickGoes_30 : decode cX12_tickGoes 30 = .ok (.iaload, 1) := by decide +kernel
theorem dX12_tickGoes_31 : decode cX12_tickGoes 31 = .ok (.if_icmp .ne 8, 3) := by decide +kernel
theorem dX12_tickGoes_34 : decode cX12_tickGoes 34 = .ok (.aload_n 0, 1) := by decide +kernel
theorem dX12_tickGoes_35 : decode cX12_tickGoes 35 = .ok (.iload_n 1, 1) := by decide +kernel
theorem dX12_tickGoes_36 : decode cX12_tickGoes 36 = .ok (.invokevirtual 344, 3) := by decide +kernel
theorem dX12_tickGoes_39 : decode cX12_tickGoes 39 = .ok (.iinc 1 1, 3) := by decide +kernel
theorem dX12_tickGoes_42 : decode cX12_tickGoes 42 = .ok (.goto (-40), 3) := by decide +kernel
theorem dX12_tickGoes_45 : decode cX12_tickGoes 45 = .ok (.iconst 0, 1) := by decide +kernel
theorem dX12_tickGoes_46 : decode cX12_tickGoes 46 = .ok (.istore_n 1, 1) := by decide +kernel
theorem dX12_tickGoes_47 : decode cX12_tickGoes 47 = .ok (.iload_n 1, 1) := by decide +kernel
theorem dX12_tickGoes_48 : decode cX12_tickGoes 48 = .ok (.aload_n 0, 1) := by decide +kernel
theorem dX12_tickGoes_49 : decode cX12_tickGoes 49 = .ok (.invokevirtual 253, 3) := by decide +kernel
theorem dX12_tickGoes_52 : decode cX12_tickGoes 52 = .ok (.if_icmp .ge 14, 3) := by decide +kernel
theorem dX12_tickGoes_55 : decode cX12_tickGoes 55 = .ok (.aload_n 0, 1) := by decide +kernel
theorem dX12_tickGoes_56 : decode cX12_tickGoes 56 = .ok (.iload_n 1, 1) := by decide +kernel
theorem dX12_tickGoes_57 : decode cX12_tickGoes 57 = .ok (.invokevirtual 347, 3) := by decide +kernel
theorem dX12_tickGoes_60 : decode cX12_tickGoes 60 = .ok (.iinc 1 1, 3) := by decide +kernel
theorem dX12_tickGoes_63 : decode cX12_tickGoes 63 = .ok (.goto (-16), 3) := by decide +kernel
theorem dX12_tickGoes_66 : decode cX12_tickGoes 66 = .ok (.aload_n 0, 1) := by decide +kernel
theorem dX12_tickGoes_67 : decode cX12_tickGoes 67 = .ok (.getfield 27, 3) := by decide +kernel
theorem dX12_tickGoes_70 : decode cX12_tickGoes 70 = .ok (.iconst 0, 1) := by decide +kernel
theorem dX12_tickGoes_71 : decode cX12_tickGoes 71 = .ok (.dup2, 1) := by decide +kernel
theorem dX12_tickGoes_72 : decode cX12_tickGoes 72 = .ok (.iaload, 1) := by decide +kernel
theorem dX12_tickGoes_73 : decode cX12_tickGoes 73 = .ok (.iconst 1, 1) := by decide +kernel
theorem dX12_tickGoes_74 : decode cX12_tickGoes 74 = .ok (.iadd, 1) := by decide +kernel
theorem dX12_tickGoes_75 : decode cX12_tickGoes 75 = .ok (.iastore, 1) := by decide +kernel
theorem dX12_tickGoes_76 : decode cX12_tickGoes 76 = .ok (.iconst 0, 1) := by decide +kernel
theorem dX12_tickGoes_77 : decode cX12_tickGoes 77 = .ok (.istore_n 1, 1) := by decide +kernel
theorem dX12_tickGoes_78 : decode cX12_tickGoes 78 = .ok (.iload_n 1, 1) := by decide +kernel
theorem dX12_tickGoes_79 : decode cX12_tickGoes 79 = .ok (.aload_n 0, 1) := by decide +kernel
theorem dX12_tickGoes_80 : decode cX12_tickGoes 80 = .ok (.invokevirtual 253, 3) := by decide +kernel
theorem dX12_tickGoes_83 : decode cX12_tickGoes 83 = .ok (.if_icmp .ge 51, 3) := by decide +kernel
theorem dX12_tickGoes_86 : decode cX12_tickGoes 86 = .ok (.aload_n 0, 1) := by decide +kernel
theorem dX12_tickGoes_87 : decode cX12_tickGoes 87 = .ok (.getfield 27, 3) := by decide +kernel
theorem dX12_tickGoes_90 : decode cX12_tickGoes 90 = .ok (.sipush 130, 3) := by decide +kernel
theorem dX12_tickGoes_93 : decode cX12_tickGoes 93 = .ok (.iload_n 1, 1) := by decide +kernel
theorem dX12_tickGoes_94 : decode cX12_tickGoes 94 = .ok (.iadd, 1) := by decide +kernel
theorem dX12_tickGoes_95 : decode cX12_tickGoes 95 = .ok (.dup2, 1) := by decide +kernel
theorem dX12_tickGoes_96 : decode cX12_tickGoes 96 = .ok (.iaload, 1) := by decide +kernel
theorem dX12_tickGoes_97 : decode cX12_tickGoes 97 = .ok (.aload_n 0, 1) := by decide +kernel
theorem dX12_tickGoes_98 : decode cX12_tickGoes 98 = .ok (.iload_n 1, 1) := by decide +kernel
theorem dX12_tickGoes_99 : decode cX12_tickGoes 99 = .ok (.invokevirtual 350, 3) := by decide +kernel
theorem dX12_tickGoes_102 : decode cX12_tickGoes 102 = .ok (.invokestatic 178, 3) := by decide +kernel
theorem dX12_tickGoes_105 : decode cX12_tickGoes 105 = .ok (.iadd, 1) := by decide +kernel
theorem dX12_tickGoes_106 : decode cX12_tickGoes 106 = .ok (.iastore, 1) := by decide +kernel
theorem dX12_tickGoes_107 : decode cX12_tickGoes 107 = .ok (.aload_n 0, 1) := by decide +kernel
theorem dX12_tickGoes_108 : decode cX12_tickGoes 108 = .ok (.getfield 27, 3) := by decide +kernel
theorem dX12_tickGoes_111 : decode cX12_tickGoes 111 = .ok (.sipush 135, 3) := by decide +kernel
theorem dX12_tickGoes_114 : decode cX12_tickGoes 114 = .ok (.iload_n 1, 1) := by decide +kernel
theorem dX12_tickGoes_115 : decode cX12_tickGoes 115 = .ok (.iadd, 1) := by decide +kernel
theorem dX12_tickGoes_116 : decode cX12_tickGoes 116 = .ok (.dup2, 1) := by decide +kernel
theorem dX12_tickGoes_117 : decode cX12_tickGoes 117 = .ok (.iaload, 1) := by decide +kernel
theorem dX12_tickGoes_118 : decode cX12_tickGoes 118 = .ok (.aload_n 0, 1) := by decide +kernel
theorem dX12_tickGoes_119 : decode cX12_tickGoes 119 = .ok (.iload_n 1, 1) := by decide +kernel
theorem dX12_tickGoes_120 : decode cX12_tickGoes 120 = .ok (.invokevirtual 353, 3) := by decide +kernel
theorem dX12_tickGoes_123 : decode cX12_tickGoes 123 = .ok (.invokestatic 178, 3) := by decide +kernel
theorem dX12_tickGoes_126 : decode cX12_tickGoes 126 = .ok (.iadd, 1) := by decide +kernel
theorem dX12_tickGoes_127 : decode cX12_tickGoes 127 = .ok (.iastore, 1) := by decide +kernel
theorem dX12_tickGoes_128 : decode cX12_tickGoes 128 = .ok (.iinc 1 1, 3) := by decide +kernel
theorem dX12_tickGoes_131 : decode cX12_tickGoes 131 = .ok (.goto (-53), 3) := by decide +kernel
theorem dX12_tickGoes_134 : decode cX12_tickGoes 134 = .ok (.return_, 1) := by decide +kernel
theorem dX12_memberMany_0 : decode cX12_memberMany 0 = .ok (.iconst 0, 1) := by decide +kernel
theorem dX12_memberMany_1 : decode cX12_memberMany 1 = .ok (.istore_n 1, 1) := by decide +kernel
theorem dX12_memberMany_2 : decode cX12_memberMany 2 = .ok (.iconst 0, 1) := by decide +kernel
theorem dX12_memberMany_3 : decode cX12_memberMany 3 = .ok (.istore_n 2, 1) := by decide +kernel
theorem dX12_memberMany_4 : decode cX12_memberMany 4 = .ok (.iload_n 2, 1) := by decide +kernel
theorem dX12_memberMany_5 : decode cX12_memberMany 5 = .ok (.aload_n 0, 1) := by decide +kernel
theorem dX12_memberMany_6 : decode cX12_memberMany 6 = .ok (.invokevirtual 253, 3) := by decide +kernel
theorem dX12_memberMany_9 : decode cX12_memberMany 9 = .ok (.if_icmp .ge 24, 3) := by decide +kernel
theorem dX12_memberMany_12 : decode cX12_memberMany 12 = .ok (.iload_n 1, 1) := by decide +kernel
theorem dX12_memberMany_13 : decode cX12_memberMany 13 = .ok (.aload_n 0, 1) := by decide +kernel
theorem dX12_memberMany_14 : decode cX12_memberMany 14 = .ok (.getfield 17, 3) := by decide +kernel
theorem dX12_memberMany_17 : decode cX12_memberMany 17 = .ok (.bipush 48, 2) := by decide +kernel
theorem dX12_memberMany_19 : decode cX12_memberMany 19 = .ok (.iload_n 2, 1) := by decide +kernel
theorem dX12_memberMany_20 : decode cX12_memberMany 20 = .ok (.iadd, 1) := by decide +kernel
theorem dX12_memberMany_21 : decode cX12_memberMany 21 = .ok (.iaload, 1) := by decide +kernel
theorem dX12_memberMany_22 : decode cX12_memberMany 22 = .ok (.invokestatic 341, 3) := by decide +kernel
theorem dX12_memberMany_25 : decode cX12_memberMany 25 = .ok (.iadd, 1) := by decide +kernel
theorem dX12_memberMany_26 : decode cX12_memberMany 26 = .ok (.istore_n 1, 1) := by decide +kernel
theorem dX12_memberMany_27 : decode cX12_memberMany 27 = .ok (.iinc 2 1, 3) := by decide +kernel
theorem dX12_memberMany_30 : decode cX12_memberMany 30 = .ok (.goto (-26), 3) := by decide +kernel
theorem dX12_memberMany_33 : decode cX12_memberMany 33 = .ok (.iload_n 1, 1) := by decide +kernel
theorem dX12_memberMany_34 : decode cX12_memberMany 34 = .ok (.ireturn, 1) := by decide +kernel
theorem dX12_has_0 : decode cX12_has 0 = .ok (.aload_n 0, 1) := by decide +kernel
theorem dX12_has_1 : decode cX12_has 1 = .ok (.iconst 0, 1) := by decide +kernel
theorem dX12_has_2 : decode cX12_has 2 = .ok (.putfield 46, 3) := by decide +kernel
theorem dX12_has_5 : decode cX12_has 5 = .ok (.aload_n 0, 1) := by decide +kernel
theorem dX12_has_6 : decode cX12_has 6 = .ok (.getfield 224, 3) := by decide +kernel
theorem dX12_has_9 : decode cX12_has 9 = .ok (.ifCond .ne 5, 3) := by decide +kernel
theorem dX12_has_12 : decode cX12_has 12 = .ok (.iconst (-1), 1) := by decide +kernel
theorem dX12_has_13 : decode cX12_has 13 = .ok (.ireturn, 1) := by decide +kernel
theorem dX12_has_14 : decode cX12_has 14 = .ok (.iload_n 1, 1) := by decide +kernel
theorem dX12_has_15 : decode cX12_has 15 = .ok (.tableswitch 185 0 15 #[77, 82, 89, 94, 99, 106, 113, 120, 127, 134, 141, 149, 157, 165, 170, 177], 77) := by decide +kernel
theorem dX12_has_92 : decode cX12_has 92 = .ok (.aload_n 0, 1) := by decide +kernel
theorem dX12_has_93 : decode cX12_has 93 = .ok (.invokevirtual 256, 3) := by decide +kernel
theorem dX12_has_96 : decode cX12_has 96 = .ok (.ireturn, 1) := by decide +kernel
theorem dX12_has_97 : decode cX12_has 97 = .ok (.aload_n 0, 1) := by decide +kernel
theorem dX12_has_98 : decode cX12_has 98 = .ok (.getfield 17, 3) := by decide +kernel
theorem dX12_has_101 : decode cX12_has 101 = .ok (.iconst 1, 1) := by decide +kernel
theorem dX12_has_102 : decode cX12_has 102 = .ok (.iaload, 1) := by decide +kernel
theorem dX12_has_103 : decode cX12_has 103 = .ok (.ireturn, 1) := by decide +kernel
theorem dX12_has_104 : decode cX12_has 104 = .ok (.aload_n 0, 1) := by decide +kernel
theorem dX12_has_105 : decode cX12_has 105 = .ok (.invokevirtual 253, 3) := by decide +kernel
theorem dX12_has_108 : decode cX12_has 108 = .ok (.ireturn, 1) := by decide +kernel
theorem dX12_has_109 : decode cX12_has 109 = .ok (.aload_n 0, 1) := by decide +kernel
theorem dX12_has_110 : decode cX12_has 110 = .ok (.invokevirtual 356, 3) := by decide +kernel
theorem dX12_has_113 : decode cX12_has 113 = .ok (.ireturn, 1) := by decide +kernel
theorem dX12_has_114 : decode cX12_has 114 = .ok (.aload_n 0, 1) := by decide +kernel
theorem dX12_has_115 : decode cX12_has 115 = .ok (.getfield 17, 3) := by decide +kernel
theorem dX12_has_118 : decode cX12_has 118 = .ok (.iconst 3, 1) := by decide +kernel
theorem dX12_has_119 : decode cX12_has 119 = .ok (.iaload, 1) := by decide +kernel
theorem dX12_has_120 : decode cX12_has 120 = .ok (.ireturn, 1) := by decide +kernel
theorem dX12_has_121 : decode cX12_has 121 = .ok (.aload_n 0, 1) := by decide +kernel
theorem dX12_has_122 : decode cX12_has 122 = .ok (.getfield 27, 3) := by decide +kernel
theorem dX12_has_125 : decode cX12_has 125 = .ok (.iconst 0, 1) := by decide +kernel
theorem dX12_has_126 : decode cX12_has 126 = .ok (.iaload, 1) := by decide +kernel
theorem dX12_has_127 : decode cX12_has 127 = .ok (.ireturn, 1) := by decide +kernel
theorem dX12_has_128 : decode cX12_has 128 = .ok (.aload_n 0, 1) := by decide +kernel
theorem dX12_has_129 : decode cX12_has 129 = .ok (.getfield 27, 3) := by decide +kernel
theorem dX12_has_132 : decode cX12_has 132 = .ok (.iconst 1, 1) := by decide +kernel
theorem dX12_has_133 : decode cX12_has 133 = .ok (.iaload, 1) := by decide +kernel
theorem dX12_has_134 : decode cX12_has 134 = .ok (.ireturn, 1) := by decide +kernel
theorem dX12_has_135 : decode cX12_has 135 = .ok (.aload_n 0, 1) := by decide +kernel
theorem dX12_has_136 : decode cX12_has 136 = .ok (.getfield 27, 3) := by decide +kernel
theorem dX12_has_139 : decode cX12_has 139 = .ok (.iconst 2, 1) := by decide +kernel
theorem dX12_has_140 : decode cX12_has 140 = .ok (.iaload, 1) := by decide +kernel
theorem dX12_has_141 : decode cX12_has 141 = .ok (.ireturn, 1) := by decide +kernel
theorem dX12_has_142 : decode cX12_has 142 = .ok (.aload_n 0, 1) := by decide +kernel
theorem dX12_has_143 : decode cX12_has 143 = .ok (.getfield 27, 3) := by decide +kernel
theorem dX12_has_146 : decode cX12_has 146 = .ok (.iconst 3, 1) := by decide +kernel
theorem dX12_has_147 : decode cX12_has 147 = .ok (.iaload, 1) := by decide +kernel
theorem dX12_has_148 : decode cX12_has 148 = .ok (.ireturn, 1) := by decide +kernel
theorem dX12_has_149 : decode cX12_has 149 = .ok (.aload_n 0, 1) := by decide +kernel
theorem dX12_has_150 : decode cX12_has 150 = .ok (.getfield 27, 3) := by decide +kernel
theorem dX12_has_153 : decode cX12_has 153 = .ok (.iconst 4, 1) := by decide +kernel
theorem dX12_has_154 : decode cX12_has 154 = .ok (.iaload, 1) := by decide +kernel
theorem dX12_has_155 : decode cX12_has 155 = .ok (.ireturn, 1) := by decide +kernel
theorem dX12_has_156 : decode cX12_has 156 = .ok (.aload_n 0, 1) := by decide +kernel
theorem dX12_has_157 : decode cX12_has 157 = .ok (.getfield 27, 3) := by decide +kernel
theorem dX12_has_160 : decode cX12_has 160 = .ok (.bipush 9, 2) := by decide +kernel
theorem dX12_has_162 : decode cX12_has 162 = .ok (.iaload, 1) := by decide +kernel
theorem dX12_has_163 : decode cX12_has 163 = .ok (.ireturn, 1) := by decide +kernel
theorem dX12_has_164 : decode cX12_has 164 = .ok (.aload_n 0, 1) := by decide +kernel
theorem dX12_has_165 : decode cX12_has 165 = .ok (.getfield 27, 3) := by decide +kernel
theorem dX12_has_168 : decode cX12_has 168 = .ok (.bipush 8, 2) := by decide +kernel
theorem dX12_has_170 : decode cX12_has 170 = .ok (.iaload, 1) := by decide +kernel
theorem dX12_has_171 : decode cX12_has 171 = .ok (.ireturn, 1) := by decide +kernel
theorem dX12_has_172 : decode cX12_has 172 = .ok (.aload_n 0, 1) := by decide +kernel
theorem dX12_has_173 : decode cX12_has 173 = .ok (.getfield 27, 3) := by decide +kernel
theorem dX12_has_176 : decode cX12_has 176 = .ok (.bipush 7, 2) := by decide +kernel
theorem dX12_has_178 : decode cX12_has 178 = .ok (.iaload, 1) := by decide +kernel
theorem dX12_has_179 : decode cX12_has 179 = .ok (.ireturn, 1) := by decide +kernel
theorem dX12_has_180 : decode cX12_has 180 = .ok (.aload_n 0, 1) := by decide +kernel
theorem dX12_has_181 : decode cX12_has 181 = .ok (.getfield 228, 3) := by decide +kernel
theorem dX12_has_184 : decode cX12_has 184 = .ok (.ireturn, 1) := by decide +kernel
theorem dX12_has_185 : decode cX12_has 185 = .ok (.aload_n 0, 1) := by decide +kernel
theorem dX12_has_186 : decode cX12_has 186 = .ok (.getfield 27, 3) := by decide +kernel
theorem dX12_has_189 : decode cX12_has 189 = .ok (.iconst 5, 1) := by decide +kernel
theorem dX12_has_190 : decode cX12_has 190 = .ok (.iaload, 1) := by decide +kernel
theorem dX12_has_191 : decode cX12_has 191 = .ok (.ireturn, 1) := by decide +kernel
theorem dX12_has_192 : decode cX12_has 192 = .ok (.aload_n 0, 1) := by decide +kernel
theorem dX12_has_193 : decode cX12_has 193 = .ok (.getfield 27, 3) := by decide +kernel
theorem dX12_has_196 : decode cX12_has 196 = .ok (.bipush 6, 2) := by decide +kernel
theorem dX12_has_198 : decode cX12_has 198 = .ok (.iaload, 1) := by decide +kernel
theorem dX12_has_199 : decode cX12_has 199 = .ok (.ireturn, 1) := by decide +kernel
theorem dX12_has_200 : decode cX12_has 200 = .ok (.iconst (-1), 1) := by decide +kernel
theorem dX12_has_201 : decode cX12_has 201 = .ok (.ireturn, 1) := by decide +kernel
theorem dX12_group_0 : decode cX12_group 0 = .ok (.aload_n 0, 1) := by decide +kernel
theorem dX12_group_1 : decode cX12_group 1 = .ok (.iconst 0, 1) := by decide +kernel
theorem dX12_group_2 : decode cX12_group 2 = .ok (.putfield 46, 3) := by decide +kernel
theorem dX12_group_5 : decode cX12_group 5 = .ok (.aload_n 0, 1) := by decide +kernel
theorem dX12_group_6 : decode cX12_group 6 = .ok (.iload_n 1, 1) := by decide +kernel
theorem dX12_group_7 : decode cX12_group 7 = .ok (.invokevirtual 259, 3) := by decide +kernel
theorem dX12_group_10 : decode cX12_group 10 = .ok (.ifCond .ne 5, 3) := by decide +kernel
theorem dX12_group_13 : decode cX12_group 13 = .ok (.iconst (-1), 1) := by decide +kernel
theorem dX12_group_14 : decode cX12_group 14 = .ok (.ireturn, 1) := by decide +kernel
theorem dX12_group_15 : decode cX12_group 15 = .ok (.iload_n 2, 1) := by decide +kernel
theorem dX12_group_16 : decode cX12_group 16 = .ok (.tableswitch 142 0 8 #[52, 62, 72, 82, 92, 102, 113, 124, 135], 52) := by decide +kernel
theorem dX12_group_68 : decode cX12_group 68 = .ok (.aload_n 0, 1) := by decide +kernel
theorem dX12_group_69 : decode cX12_group 69 = .ok (.getfield 17, 3) := by decide +kernel
theorem dX12_group_72 : decode cX12_group 72 = .ok (.bipush 28, 2) := by decide +kernel
theorem dX12_group_74 : decode cX12_group 74 = .ok (.iload_n 1, 1) := by decide +kernel
theorem dX12_group_75 : decode cX12_group 75 = .ok (.iadd, 1) := by decide +kernel
theorem dX12_group_76 : decode cX12_group 76 = .ok (.iaload, 1) := by decide +kernel
theorem dX12_group_77 : decode cX12_group 77 = .ok (.ireturn, 1) := by decide +kernel
theorem dX12_group_78 : decode cX12_group 78 = .ok (.aload_n 0, 1) := by decide +kernel
theorem dX12_group_79 : decode cX12_group 79 = .ok (.getfield 17, 3) := by decide +kernel
theorem dX12_group_82 : decode cX12_group 82 = .ok (.bipush 33, 2) := by decide +kernel
theorem dX12_group_84 : decode cX12_group 84 = .ok (.iload_n 1, 1) := by decide +kernel
theorem dX12_group_85 : decode cX12_group 85 = .ok (.iadd, 1) := by decide +kernel
theorem dX12_group_86 : decode cX12_group 86 = .ok (.iaload, 1) := by decide +kernel
theorem dX12_group_87 : decode cX12_group 87 = .ok (.ireturn, 1) := by decide +kernel
theorem dX12_group_88 : decode cX12_group 88 = .ok (.aload_n 0, 1) := by decide +kernel
theorem dX12_group_89 : decode cX12_group 89 = .ok (.getfield 17, 3) := by decide +kernel
theorem dX12_group_92 : decode cX12_group 92 = .ok (.bipush 38, 2) := by decide +kernel
theorem dX12_group_94 : decode cX12_group 94 = .ok (.iload_n 1, 1) := by decide +kernel
theorem dX12_group_95 : decode cX12_group 95 = .ok (.iadd, 1) := by decide +kernel
theorem dX12_group_96 : decode cX12_group 96 = .ok (.iaload, 1) := by decide +kernel
theorem dX12_group_97 : decode cX12_group 97 = .ok (.ireturn, 1) := by decide +kernel
theorem dX12_group_98 : decode cX12_group 98 = .ok (.aload_n 0, 1) := by decide +kernel
theorem dX12_group_99 : decode cX12_group 99 = .ok (.getfield 17, 3) := by decide +kernel
theorem dX12_group_102 : decode cX12_group 102 = .ok (.bipush 43, 2) := by decide +kernel
theorem dX12_group_104 : decode cX12_group 104 = .ok (.iload_n 1, 1) := by decide +kernel
theorem dX12_group_105 : decode cX12_group 105 = .ok (.iadd, 1) := by decide +kernel
theorem dX12_group_106 : decode cX12_group 106 = .ok (.iaload, 1) := by decide +kernel
theorem dX12_group_107 : decode cX12_group 107 = .ok (.ireturn, 1) := by decide +kernel
theorem dX12_group_108 : decode cX12_group 108 = .ok (.aload_n 0, 1) := by decide +kernel
theorem dX12_group_109 : decode cX12_group 109 = .ok (.getfield 17, 3) := by decide +kernel
theorem dX12_group_112 : decode cX12_group 112 = .ok (.bipush 48, 2) := by decide +kernel
theorem dX12_group_114 : decode cX12_group 114 = .ok (.iload_n 1, 1) := by decide +kernel
theorem dX12_group_115 : decode cX12_group 115 = .ok (.iadd, 1) := by decide +kernel
theorem dX12_group_116 : decode cX12_group 116 = .ok (.iaload, 1) := by decide +kernel
theorem dX12_group_117 : decode cX12_group 117 = .ok (.ireturn, 1) := by decide +kernel
theorem dX12_group_118 : decode cX12_group 118 = .ok (.aload_n 0, 1) := by decide +kernel
theorem dX12_group_119 : decode cX12_group 119 = .ok (.getfield 27, 3) := by decide +kernel
theorem dX12_group_122 : decode cX12_group 122 = .ok (.sipush 130, 3) := by decide +kernel
theorem dX12_group_125 : decode cX12_group 125 = .ok (.iload_n 1, 1) := by decide +kernel
theorem dX12_group_126 : decode cX12_group 126 = .ok (.iadd, 1) := by decide +kernel
theorem dX12_group_127 : decode cX12_group 127 = .ok (.iaload, 1) := by decide +kernel
theorem dX12_group_128 : decode cX12_group 128 = .ok (.ireturn, 1) := by decide +kernel
theorem dX12_group_129 : decode cX12_group 129 = .ok (.aload_n 0, 1) := by decide +kernel
theorem dX12_group_130 : decode cX12_group 130 = .ok (.getfield 27, 3) := by decide +kernel
theorem dX12_group_133 : decode cX12_group 133 = .ok (.sipush 135, 3) := by decide +kernel
theorem dX12_group_136 : decode cX12_group 136 = .ok (.iload_n 1, 1) := by decide +kernel
theorem dX12_group_137 : decode cX12_group 137 = .ok (.iadd, 1) := by decide +kernel
theorem dX12_group_138 : decode cX12_group 138 = .ok (.iaload, 1) := by decide +kernel
theorem dX12_group_139 : decode cX12_group 139 = .ok (.ireturn, 1) := by decide +kernel
theorem dX12_group_140 : decode cX12_group 140 = .ok (.aload_n 0, 1) := by decide +kernel
theorem dX12_group_141 : decode cX12_group 141 = .ok (.getfield 27, 3) := by decide +kernel
theorem dX12_group_144 : decode cX12_group 144 = .ok (.sipush 140, 3) := by decide +kernel
theorem dX12_group_147 : decode cX12_group 147 = .ok (.iload_n 1, 1) := by decide +kernel
theorem dX12_group_148 : decode cX12_group 148 = .ok (.iadd, 1) := by decide +kernel
theorem dX12_group_149 : decode cX12_group 149 = .ok (.iaload, 1) := by decide +kernel
theorem dX12_group_150 : decode cX12_group 150 = .ok (.ireturn, 1) := by decide +kernel
theorem dX12_group_151 : decode cX12_group 151 = .ok (.aload_n 0, 1) := by decide +kernel
theorem dX12_group_152 : decode cX12_group 152 = .ok (.iload_n 1, 1) := by decide +kernel
theorem dX12_group_153 : decode cX12_group 153 = .ok (.iconst 2, 1) := by decide +kernel
theorem dX12_group_154 : decode cX12_group 154 = .ok (.invokevirtual 338, 3) := by decide +kernel
theorem dX12_group_157 : decode cX12_group 157 = .ok (.ireturn, 1) := by decide +kernel
theorem dX12_group_158 : decode cX12_group 158 = .ok (.iconst (-1), 1) := by decide +kernel
theorem dX12_group_159 : decode cX12_group 159 = .ok (.ireturn, 1) := by decide +kernel
theorem dX12_member_0 : decode cX12_member 0 = .ok (.aload_n 0, 1) := by decide +kernel
theorem dX12_member_1 : decode cX12_member 1 = .ok (.iconst 0, 1) := by decide +kernel
theorem dX12_member_2 : decode cX12_member 2 = .ok (.putfield 46, 3) := by decide +kernel
theorem dX12_member_5 : decode cX12_member 5 = .ok (.aload_n 0, 1) := by decide +kernel
theorem dX12_member_6 : decode cX12_member 6 = .ok (.iload_n 1, 1) := by decide +kernel
theorem dX12_member_7 : decode cX12_member 7 = .ok (.iload_n 2, 1) := by decide +kernel
theorem dX12_member_8 : decode cX12_member 8 = .ok (.invokevirtual 287, 3) := by decide +kernel
theorem dX12_member_11 : decode cX12_member 11 = .ok (.ifCond .ne 5, 3) := by decide +kernel
theorem dX12_member_14 : decode cX12_member 14 = .ok (.iconst (-1), 1) := by decide +kernel
theorem dX12_member_15 : decode cX12_member 15 = .ok (.ireturn, 1) := by decide +kernel
theorem dX12_member_16 : decode cX12_member 16 = .ok (.iload_n 1, 1) := by decide +kernel
theorem dX12_member_17 : decode cX12_member 17 = .ok (.iload_n 2, 1) := by decide +kernel
theorem dX12_member_18 : decode cX12_member 18 = .ok (.invokestatic 190, 3) := by decide +kernel
theorem dX12_member_21 : decode cX12_member 21 = .ok (.istore 4, 2) := by decide +kernel
theorem dX12_member_23 : decode cX12_member 23 = .ok (.iload_n 3, 1) := by decide +kernel
theorem dX12_member_24 : decode cX12_member 24 = .ok (.tableswitch 126 0 7 #[48, 59, 66, 77, 88, 99, 106, 113], 48) := by decide +kernel
theorem dX12_member_72 : decode cX12_member 72 = .ok (.aload_n 0, 1) := by decide +kernel
theorem dX12_member_73 : decode cX12_member 73 = .ok (.getfield 27, 3) := by decide +kernel
theorem dX12_member_76 : decode cX12_member 76 = .ok (.bipush 10, 2) := by decide +kernel
theorem dX12_member_78 : decode cX12_member 78 = .ok (.iload 4, 2) := by decide +kernel
theorem dX12_member_80 : decode cX12_member 80 = .ok (.iadd, 1) := by decide +kernel
theorem dX12_member_81 : decode cX12_member 81 = .ok (.iaload, 1) := by decide +kernel
theorem dX12_member_82 : decode cX12_member 82 = .ok (.ireturn, 1) := by decide +kernel
theorem dX12_member_83 : decode cX12_member 83 = .ok (.aload_n 0, 1) := by decide +kernel
theorem dX12_member_84 : decode cX12_member 84 = .ok (.iload_n 1, 1) := by decide +kernel
theorem dX12_member_85 : decode cX12_member 85 = .ok (.iload_n 2, 1) := by decide +kernel
theorem dX12_member_86 : decode cX12_member 86 = .ok (.invokevirtual 268, 3) := by decide +kernel
theorem dX12_member_89 : decode cX12_member 89 = .ok (.ireturn, 1) := by decide +kernel
theorem dX12_member_90 : decode cX12_member 90 = .ok (.aload_n 0, 1) := by decide +kernel
theorem dX12_member_91 : decode cX12_member 91 = .ok (.getfield 17, 3) := by decide +kernel
theorem dX12_member_94 : decode cX12_member 94 = .ok (.bipush 83, 2) := by decide +kernel
theorem dX12_member_96 : decode cX12_member 96 = .ok (.iload 4, 2) := by decide +kernel
theorem dX12_member_98 : decode cX12_member 98 = .ok (.iadd, 1) := by decide +kernel
theorem dX12_member_99 : decode cX12_member 99 = .ok (.iaload, 1) := by decide +kernel
theorem dX12_member_100 : decode cX12_member 100 = .ok (.ireturn, 1) := by decide +kernel
theorem dX12_member_101 : decode cX12_member 101 = .ok (.aload_n 0, 1) := by decide +kernel
theorem dX12_member_102 : decode cX12_member 102 = .ok (.getfield 27, 3) := by decide +kernel
theorem dX12_member_105 : decode cX12_member 105 = .ok (.bipush 40, 2) := by decide +kernel
theorem dX12_member_107 : decode cX12_member 107 = .ok (.iload 4, 2) := by decide +kernel
theorem dX12_member_109 : decode cX12_member 109 = .ok (.iadd, 1) := by decide +kernel
theorem dX12_member_110 : decode cX12_member 110 = .ok (.iaload, 1) := by decide +kernel
theorem dX12_member_111 : decode cX12_member 111 = .ok (.ireturn, 1) := by decide +kernel
theorem dX12_member_112 : decode cX12_member 112 = .ok (.aload_n 0, 1) := by decide +kernel
theorem dX12_member_113 : decode cX12_member 113 = .ok (.getfield 27, 3) := by decide +kernel
theorem dX12_member_116 : decode cX12_member 116 = .ok (.bipush 70, 2) := by decide +kernel
theorem dX12_member_118 : decode cX12_member 118 = .ok (.iload 4, 2) := by decide +kernel
theorem dX12_member_120 : decode cX12_member 120 = .ok (.iadd, 1) := by decide +kernel
theorem dX12_member_121 : decode cX12_member 121 = .ok (.iaload, 1) := by decide +kernel
theorem dX12_member_122 : decode cX12_member 122 = .ok (.ireturn, 1) := by decide +kernel
theorem dX12_member_123 : decode cX12_member 123 = .ok (.aload_n 0, 1) := by decide +kernel
theorem dX12_member_124 : decode cX12_member 124 = .ok (.iload_n 1, 1) := by decide +kernel
theorem dX12_member_125 : decode cX12_member 125 = .ok (.iload_n 2, 1) := by decide +kernel
theorem dX12_member_126 : decode cX12_member 126 = .ok (.invokevirtual 271, 3) := by decide +kernel
theorem dX12_member_129 : decode cX12_member 129 = .ok (.ireturn, 1) := by decide +kernel
theorem dX12_member_130 : decode cX12_member 130 = .ok (.aload_n 0, 1) := by decide +kernel
theorem dX12_member_131 : decode cX12_member 131 = .ok (.iload_n 1, 1) := by decide +kernel
theorem dX12_member_132 : decode cX12_member 132 = .ok (.iload_n 2, 1) := by decide +kernel
theorem dX12_member_133 : decode cX12_member 133 = .ok (.invokevirtual 277, 3) := by decide +kernel
theorem dX12_member_136 : decode cX12_member 136 = .ok (.ireturn, 1) := by decide +kernel
theorem dX12_member_137 : decode cX12_member 137 = .ok (.aload_n 0, 1) := by decide +kernel
theorem dX12_member_138 : decode cX12_member 138 = .ok (.getfield 27, 3) := by decide +kernel
theorem dX12_member_141 : decode cX12_member 141 = .ok (.bipush 100, 2) := by decide +kernel
theorem dX12_member_143 : decode cX12_member 143 = .ok (.iload 4, 2) := by decide +kernel
theorem dX12_member_145 : decode cX12_member 145 = .ok (.iadd, 1) := by decide +kernel
theorem dX12_member_146 : decode cX12_member 146 = .ok (.iaload, 1) := by decide +kernel
theorem dX12_member_147 : decode cX12_member 147 = .ok (.iconst 1, 1) := by decide +kernel
theorem dX12_member_148 : decode cX12_member 148 = .ok (.isub, 1) := by decide +kernel
theorem dX12_member_149 : decode cX12_member 149 = .ok (.ireturn, 1) := by decide +kernel
theorem dX12_member_150 : decode cX12_member 150 = .ok (.iconst (-1), 1) := by decide +kernel
theorem dX12_member_151 : decode cX12_member 151 = .ok (.ireturn, 1) := by decide +kernel
theorem dX12_letter_0 : decode cX12_letter 0 = .ok (.aload_n 0, 1) := by decide +kernel
theorem dX12_letter_1 : decode cX12_letter 1 = .ok (.iconst 0, 1) := by decide +kernel
theorem dX12_letter_2 : decode cX12_letter 2 = .ok (.putfield 46, 3) := by decide +kernel
theorem dX12_letter_5 : decode cX12_letter 5 = .ok (.iload_n 1, 1) := by decide +kernel
theorem dX12_letter_6 : decode cX12_letter 6 = .ok (.i2l, 1) := by decide +kernel
theorem dX12_letter_7 : decode cX12_letter 7 = .ok (.lconst 0, 1) := by decide +kernel
theorem dX12_letter_8 : decode cX12_letter 8 = .ok (.ldc2_w 359, 3) := by decide +kernel
theorem dX12_letter_11 : decode cX12_letter 11 = .ok (.invokestatic 56, 3) := by decide +kernel
theorem dX12_letter_14 : decode cX12_letter 14 = .ok (.ifCond .eq 35, 3) := by decide +kernel
theorem dX12_letter_17 : decode cX12_letter 17 = .ok (.iload_n 2, 1) := by decide +kernel
theorem dX12_letter_18 : decode cX12_letter 18 = .ok (.i2l, 1) := by decide +kernel
theorem dX12_letter_19 : decode cX12_letter 19 = .ok (.lconst 0, 1) := by decide +kernel
theorem dX12_letter_20 : decode cX12_letter 20 = .ok (.aload_n 0, 1) := by decide +kernel
theorem dX12_letter_21 : decode cX12_letter 21 = .ok (.getfield 17, 3) := by decide +kernel
theorem dX12_letter_24 : decode cX12_letter 24 = .ok (.iconst 0, 1) := by decide +kernel
theorem dX12_letter_25 : decode cX12_letter 25 = .ok (.iload_n 1, 1) := by decide +kernel
theorem dX12_letter_26 : decode cX12_letter 26 = .ok (.iadd, 1) := by decide +kernel
theorem dX12_letter_27 : decode cX12_letter 27 = .ok (.iaload, 1) := by decide +kernel
theorem dX12_letter_28 : decode cX12_letter 28 = .ok (.iconst 1, 1) := by decide +kernel
theorem dX12_letter_29 : decode cX12_letter 29 = .ok (.isub, 1) := by decide +kernel
theorem dX12_letter_30 : decode cX12_letter 30 = .ok (.i2l, 1) := by decide +kernel
theorem dX12_letter_31 : decode cX12_letter 31 = .ok (.invokestatic 56, 3) := by decide +kernel
theorem dX12_letter_34 : decode cX12_letter 34 = .ok (.ifCond .eq 15, 3) := by decide +kernel
theorem dX12_letter_37 : decode cX12_letter 37 = .ok (.iload_n 3, 1) := by decide +kernel
theorem dX12_letter_38 : decode cX12_letter 38 = .ok (.i2l, 1) := by decide +kernel
theorem dX12_letter_39 : decode cX12_letter 39 = .ok (.lconst 0, 1) := by decide +kernel
theorem dX12_letter_40 : decode cX12_letter 40 = .ok (.ldc2_w 361, 3) := by decide +kernel
theorem dX12_letter_43 : decode cX12_letter 43 = .ok (.invokestatic 56, 3) := by decide +kernel
theorem dX12_letter_46 : decode cX12_letter 46 = .ok (.ifCond .ne 5, 3) := by decide +kernel
theorem dX12_letter_49 : decode cX12_letter 49 = .ok (.iconst (-1), 1) := by decide +kernel
theorem dX12_letter_50 : decode cX12_letter 50 = .ok (.ireturn, 1) := by decide +kernel
theorem dX12_letter_51 : decode cX12_letter 51 = .ok (.aload_n 0, 1) := by decide +kernel
theorem dX12_letter_52 : decode cX12_letter 52 = .ok (.getfield 17, 3) := by decide +kernel
theorem dX12_letter_55 : decode cX12_letter 55 = .ok (.iconst 4, 1) := by decide +kernel
theorem dX12_letter_56 : decode cX12_letter 56 = .ok (.bipush 8, 2) := by decide +kernel
theorem dX12_letter_58 : decode cX12_letter 58 = .ok (.iload_n 1, 1) := by decide +kernel
theorem dX12_letter_59 : decode cX12_letter 59 = .ok (.imul, 1) := by decide +kernel
theorem dX12_letter_60 : decode cX12_letter 60 = .ok (.iadd, 1) := by decide +kernel
theorem dX12_letter_61 : decode cX12_letter 61 = .ok (.iload_n 2, 1) := by decide +kernel
theorem dX12_letter_62 : decode cX12_letter 62 = .ok (.iadd, 1) := by decide +kernel
theorem dX12_letter_63 : decode cX12_letter 63 = .ok (.iaload, 1) := by decide +kernel
theorem dX12_letter_64 : decode cX12_letter 64 = .ok (.istore 4, 2) := by decide +kernel
theorem dX12_letter_66 : decode cX12_letter 66 = .ok (.iconst 0, 1) := by decide +kernel
theorem dX12_letter_67 : decode cX12_letter 67 = .ok (.istore 5, 2) := by decide +kernel
theorem dX12_letter_69 : decode cX12_letter 69 = .ok (.iload 5, 2) := by decide +kernel
theorem dX12_letter_71 : decode cX12_letter 71 = .ok (.bipush 6, 2) := by decide +kernel
theorem dX12_letter_73 : decode cX12_letter 73 = .ok (.if_icmp .ge 19, 3) := by decide +kernel
theorem dX12_letter_76 : decode cX12_letter 76 = .ok (.iload 4, 2) := by decide +kernel
theorem dX12_letter_78 : decode cX12_letter 78 = .ok (.iconst 5, 1) := by decide +kernel
theorem dX12_letter_79 : decode cX12_letter 79 = .ok (.iload 5, 2) := by decide +kernel
theorem dX12_letter_81 : decode cX12_letter 81 = .ok (.imul, 1) := by decide +kernel
theorem dX12_letter_82 : decode cX12_letter 82 = .ok (.ishr, 1) := by decide +kernel
theorem dX12_letter_83 : decode cX12_letter 83 = .ok (.ifCond .le 9, 3) := by decide +kernel
theorem dX12_letter_86 : decode cX12_letter 86 = .ok (.iinc 5 1, 3) := by decide +kernel
theorem dX12_letter_89 : decode cX12_letter 89 = .ok (.goto (-20), 3) := by decide +kernel
theorem dX12_letter_92 : decode cX12_letter 92 = .ok (.iload_n 3, 1) := by decide +kernel
theorem dX12_letter_93 : decode cX12_letter 93 = .ok (.iload 5, 2) := by decide +kernel
theorem dX12_letter_95 : decode cX12_letter 95 = .ok (.if_icmp .ge 20, 3) := by decide +kernel
theorem dX12_letter_98 : decode cX12_letter 98 = .ok (.iload 4, 2) := by decide +kernel
theorem dX12_letter_100 : decode cX12_letter 100 = .ok (.iconst 5, 1) := by decide +kernel
theorem dX12_letter_101 : decode cX12_letter 101 = .ok (.iload 5, 2) := by decide +kernel
theorem dX12_letter_103 : decode cX12_letter 103 = .ok (.iconst 1, 1) := by decide +kernel
theorem dX12_letter_104 : decode cX12_letter 104 = .ok (.isub, 1) := by decide +kernel
theorem dX12_letter_105 : decode cX12_letter 105 = .ok (.iload_n 3, 1) := by decide +kernel
theorem dX12_letter_106 : decode cX12_letter 106 = .ok (.isub, 1) := by decide +kernel
theorem dX12_letter_107 : decode cX12_letter 107 = .ok (.imul, 1) := by decide +kernel
theorem dX12_letter_108 : decode cX12_letter 108 = .ok (.ishr, 1) := by decide +kernel
theorem dX12_letter_109 : decode cX12_letter 109 = .ok (.bipush 31, 2) := by decide +kernel
theorem dX12_letter_111 : decode cX12_letter 111 = .ok (.iand, 1) := by decide +kernel
theorem dX12_letter_112 : decode cX12_letter 112 = .ok (.goto 4, 3) := by decide +kernel
theorem dX12_letter_115 : decode cX12_letter 115 = .ok (.iconst 0, 1) := by decide +kernel
theorem dX12_letter_116 : decode cX12_letter 116 = .ok (.ireturn, 1) := by decide +kernel
theorem dX12_track_0 : decode cX12_track 0 = .ok (.aload_n 0, 1) := by decide +kernel
theorem dX12_track_1 : decode cX12_track 1 = .ok (.iconst 0, 1) := by decide +kernel
theorem dX12_track_2 : decode cX12_track 2 = .ok (.putfield 46, 3) := by decide +kernel
theorem dX12_track_5 : decode cX12_track 5 = .ok (.iload_n 1, 1) := by decide +kernel
theorem dX12_track_6 : decode cX12_track 6 = .ok (.i2l, 1) := by decide +kernel
theorem dX12_track_7 : decode cX12_track 7 = .ok (.lconst 0, 1) := by decide +kernel
theorem dX12_track_8 : decode cX12_track 8 = .ok (.aload_n 0, 1) := by decide +kernel
theorem dX12_track_9 : decode cX12_track 9 = .ok (.getfield 17, 3) := by decide +kernel
theorem dX12_track_12 : decode cX12_track 12 = .ok (.iconst 3, 1) := by decide +kernel
theorem dX12_track_13 : decode cX12_track 13 = .ok (.iaload, 1) := by decide +kernel
theorem dX12_track_14 : decode cX12_track 14 = .ok (.iconst 1, 1) := by decide +kernel
theorem dX12_track_15 : decode cX12_track 15 = .ok (.isub, 1) := by decide +kernel
theorem dX12_track_16 : decode cX12_track 16 = .ok (.i2l, 1) := by decide +kernel
theorem dX12_track_17 : decode cX12_track 17 = .ok (.invokestatic 56, 3) := by decide +kernel
theorem dX12_track_20 : decode cX12_track 20 = .ok (.ifCond .eq 31, 3) := by decide +kernel
theorem dX12_track_23 : decode cX12_track 23 = .ok (.iload_n 2, 1) := by decide +kernel
theorem dX12_track_24 : decode cX12_track 24 = .ok (.i2l, 1) := by decide +kernel
theorem dX12_track_25 : decode cX12_track 25 = .ok (.lconst 0, 1) := by decide +kernel
theorem dX12_track_26 : decode cX12_track 26 = .ok (.ldc2_w 363, 3) := by decide +kernel
theorem dX12_track_29 : decode cX12_track 29 = .ok (.invokestatic 56, 3) := by decide +kernel
theorem dX12_track_32 : decode cX12_track 32 = .ok (.ifCond .eq 19, 3) := by decide +kernel
theorem dX12_track_35 : decode cX12_track 35 = .ok (.aload_n 0, 1) := by decide +kernel
theorem dX12_track_36 : decode cX12_track 36 = .ok (.getfield 17, 3) := by decide +kernel
theorem dX12_track_39 : decode cX12_track 39 = .ok (.bipush 113, 2) := by decide +kernel
theorem dX12_track_41 : decode cX12_track 41 = .ok (.iconst 4, 1) := by decide +kernel
theorem dX12_track_42 : decode cX12_track 42 = .ok (.iload_n 1, 1) := by decide +kernel
theorem dX12_track_43 : decode cX12_track 43 = .ok (.imul, 1) := by decide +kernel
theorem dX12_track_44 : decode cX12_track 44 = .ok (.iadd, 1) := by decide +kernel
theorem dX12_track_45 : decode cX12_track 45 = .ok (.iload_n 2, 1) := by decide +kernel
theorem dX12_track_46 : decode cX12_track 46 = .ok (.iadd, 1) := by decide +kernel
theorem dX12_track_47 : decode cX12_track 47 = .ok (.iaload, 1) := by decide +kernel
theorem dX12_track_48 : decode cX12_track 48 = .ok (.goto 4, 3) := by decide +kernel
theorem dX12_track_51 : decode cX12_track 51 = .ok (.iconst (-1), 1) := by decide +kernel
theorem dX12_track_52 : decode cX12_track 52 = .ok (.ireturn, 1) := by decide +kernel
theorem dX12_event_0 : decode cX12_event 0 = .ok (.aload_n 0, 1) := by decide +kernel
theorem dX12_event_1 : decode cX12_event 1 = .ok (.iconst 0, 1) := by decide +kernel
theorem dX12_event_2 : decode cX12_event 2 = .ok (.putfield 46, 3) := by decide +kernel
theorem dX12_event_5 : decode cX12_event 5 = .ok (.iload_n 1, 1) := by decide +kernel
theorem dX12_event_6 : decode cX12_event 6 = .ok (.i2l, 1) := by decide +kernel
theorem dX12_event_7 : decode cX12_event 7 = .ok (.lconst 0, 1) := by decide +kernel
theorem dX12_event_8 : decode cX12_event 8 = .ok (.aload_n 0, 1) := by decide +kernel
theorem dX12_event_9 : decode cX12_event 9 = .ok (.getfield 27, 3) := by decide +kernel
theorem dX12_event_12 : decode cX12_event 12 = .ok (.bipush 8, 2) := by decide +kernel
theorem dX12_event_14 : decode cX12_event 14 = .ok (.iaload, 1) := by decide +kernel
theorem dX12_event_15 : decode cX12_event 15 = .ok (.iconst 1, 1) := by decide +kernel
theorem dX12_event_16 : decode cX12_event 16 = .ok (.isub, 1) := by decide +kernel
theorem dX12_event_17 : decode cX12_event 17 = .ok (.i2l, 1) := by decide +kernel
theorem dX12_event_18 : decode cX12_event 18 = .ok (.invokestatic 56, 3) := by decide +kernel
theorem dX12_event_21 : decode cX12_event 21 = .ok (.ifCond .eq 32, 3) := by decide +kernel
theorem dX12_event_24 : decode cX12_event 24 = .ok (.iload_n 2, 1) := by decide +kernel
theorem dX12_event_25 : decode cX12_event 25 = .ok (.i2l, 1) := by decide +kernel
theorem dX12_event_26 : decode cX12_event 26 = .ok (.lconst 0, 1) := by decide +kernel
theorem dX12_event_27 : decode cX12_event 27 = .ok (.ldc2_w 365, 3) := by decide +kernel
theorem dX12_event_30 : decode cX12_event 30 = .ok (.invokestatic 56, 3) := by decide +kernel
theorem dX12_event_33 : decode cX12_event 33 = .ok (.ifCond .eq 20, 3) := by decide +kernel
theorem dX12_event_36 : decode cX12_event 36 = .ok (.aload_n 0, 1) := by decide +kernel
theorem dX12_event_37 : decode cX12_event 37 = .ok (.getfield 27, 3) := by decide +kernel
theorem dX12_event_40 : decode cX12_event 40 = .ok (.sipush 145, 3) := by decide +kernel
theorem dX12_event_43 : decode cX12_event 43 = .ok (.iconst 5, 1) := by decide +kernel
theorem dX12_event_44 : decode cX12_event 44 = .ok (.iload_n 1, 1) := by decide +kernel
theorem dX12_event_45 : decode cX12_event 45 = .ok (.imul, 1) := by decide +kernel
theorem dX12_event_46 : decode cX12_event 46 = .ok (.iadd, 1) := by decide +kernel
theorem dX12_event_47 : decode cX12_event 47 = .ok (.iload_n 2, 1) := by decide +kernel
theorem dX12_event_48 : decode cX12_event 48 = .ok (.iadd, 1) := by decide +kernel
theorem dX12_event_49 : decode cX12_event 49 = .ok (.iaload, 1) := by decide +kernel
theorem dX12_event_50 : decode cX12_event 50 = .ok (.goto 4, 3) := by decide +kernel
theorem dX12_event_53 : decode cX12_event 53 = .ok (.iconst (-1), 1) := by decide +kernel
theorem dX12_event_54 : decode cX12_event 54 = .ok (.ireturn, 1) := by decide +kernel
theorem dX12_ticks_0 : decode cX12_ticks 0 = .ok (.aload_n 0, 1) := by decide +kernel
theorem dX12_ticks_1 : decode cX12_ticks 1 = .ok (.iconst 0, 1) := by decide +kernel
theorem dX12_ticks_2 : decode cX12_ticks 2 = .ok (.putfield 46, 3) := by decide +kernel
theorem dX12_ticks_5 : decode cX12_ticks 5 = .ok (.aload_n 0, 1) := by decide +kernel
theorem dX12_ticks_6 : decode cX12_ticks 6 = .ok (.getfield 224, 3) := by decide +kernel
theorem dX12_ticks_9 : decode cX12_ticks 9 = .ok (.ifCond .eq 29, 3) := by decide +kernel
theorem dX12_ticks_12 : decode cX12_ticks 12 = .ok (.iload_n 1, 1) := by decide +kernel
theorem dX12_ticks_13 : decode cX12_ticks 13 = .ok (.i2l, 1) := by decide +kernel
theorem dX12_ticks_14 : decode cX12_ticks 14 = .ok (.lconst 1, 1) := by decide +kernel
theorem dX12_ticks_15 : decode cX12_ticks 15 = .ok (.ldc2_w 367, 3) := by decide +kernel
theorem dX12_ticks_18 : decode cX12_ticks 18 = .ok (.invokestatic 56, 3) := by decide +kernel
theorem dX12_ticks_21 : decode cX12_ticks 21 = .ok (.ifCond .eq 17, 3) := by decide +kernel
theorem dX12_ticks_24 : decode cX12_ticks 24 = .ok (.aload_n 0, 1) := by decide +kernel
theorem dX12_ticks_25 : decode cX12_ticks 25 = .ok (.getfield 27, 3) := by decide +kernel
theorem dX12_ticks_28 : decode cX12_ticks 28 = .ok (.iconst 0, 1) := by decide +kernel
theorem dX12_ticks_29 : decode cX12_ticks 29 = .ok (.iaload, 1) := by decide +kernel
theorem dX12_ticks_30 : decode cX12_ticks 30 = .ok (.iload_n 1, 1) := by decide +kernel
theorem dX12_ticks_31 : decode cX12_ticks 31 = .ok (.iadd, 1) := by decide +kernel
theorem dX12_ticks_32 : decode cX12_ticks 32 = .ok (.sipush 9999, 3) := by decide +kernel
theorem dX12_ticks_35 : decode cX12_ticks 35 = .ok (.if_icmp .le 6, 3) := by decide +kernel
theorem dX12_ticks_38 : decode cX12_ticks 38 = .ok (.bipush (-2), 2) := by decide +kernel
theorem dX12_ticks_40 : decode cX12_ticks 40 = .ok (.ireturn, 1) := by decide +kernel
theorem dX12_ticks_41 : decode cX12_ticks 41 = .ok (.aload_n 0, 1) := by decide +kernel
theorem dX12_ticks_42 : decode cX12_ticks 42 = .ok (.invokevirtual 247, 3) := by decide +kernel
theorem dX12_ticks_45 : decode cX12_ticks 45 = .ok (.iconst 0, 1) := by decide +kernel
theorem dX12_ticks_46 : decode cX12_ticks 46 = .ok (.istore_n 2, 1) := by decide +kernel
theorem dX12_ticks_47 : decode cX12_ticks 47 = .ok (.iload_n 2, 1) := by decide +kernel
theorem dX12_ticks_48 : decode cX12_ticks 48 = .ok (.iload_n 1, 1) := by decide +kernel
theorem dX12_ticks_49 : decode cX12_ticks 49 = .ok (.if_icmp .ge 13, 3) := by decide +kernel
theorem dX12_ticks_52 : decode cX12_ticks 52 = .ok (.aload_n 0, 1) := by decide +kernel
theorem dX12_ticks_53 : decode cX12_ticks 53 = .ok (.invokevirtual 369, 3) := by decide +kernel
theorem dX12_ticks_56 : decode cX12_ticks 56 = .ok (.iinc 2 1, 3) := by decide +kernel
theorem dX12_ticks_59 : decode cX12_ticks 59 = .ok (.goto (-12), 3) := by decide +kernel
theorem dX12_ticks_62 : decode cX12_ticks 62 = .ok (.aload_n 0, 1) := by decide +kernel
theorem dX12_ticks_63 : decode cX12_ticks 63 = .ok (.getfield 27, 3) := by decide +kernel
theorem dX12_ticks_66 : decode cX12_ticks 66 = .ok (.iconst 0, 1) := by decide +kernel
theorem dX12_ticks_67 : decode cX12_ticks 67 = .ok (.iaload, 1) := by decide +kernel
theorem dX12_ticks_68 : decode cX12_ticks 68 = .ok (.ireturn, 1) := by decide +kernel
theorem dX12_up_0 : decode cX12_up 0 = .ok (.aload_n 0, 1) := by decide +kernel
theorem dX12_up_1 : decode cX12_up 1 = .ok (.iconst 0, 1) := by decide +kernel
theorem dX12_up_2 : decode cX12_up 2 = .ok (.putfield 46, 3) := by decide +kernel
theorem dX12_up_5 : decode cX12_up 5 = .ok (.aload_n 0, 1) := by decide +kernel
theorem dX12_up_6 : decode cX12_up 6 = .ok (.iload_n 1, 1) := by decide +kernel
theorem dX12_up_7 : decode cX12_up 7 = .ok (.invokevirtual 262, 3) := by decide +kernel
theorem dX12_up_10 : decode cX12_up 10 = .ok (.ifCond .ne 6, 3) := by decide +kernel
theorem dX12_up_13 : decode cX12_up 13 = .ok (.bipush (-2), 2) := by decide +kernel
theorem dX12_up_15 : decode cX12_up 15 = .ok (.ireturn, 1) := by decide +kernel
theorem dX12_up_16 : decode cX12_up 16 = .ok (.aload_n 0, 1) := by decide +kernel
theorem dX12_up_17 : decode cX12_up 17 = .ok (.iload_n 1, 1) := by decide +kernel
theorem dX12_up_18 : decode cX12_up 18 = .ok (.invokevirtual 305, 3) := by decide +kernel
theorem dX12_up_21 : decode cX12_up 21 = .ok (.ifCond .eq 6, 3) := by decide +kernel
theorem dX12_up_24 : decode cX12_up 24 = .ok (.bipush (-3), 2) := by decide +kernel
theorem dX12_up_26 : decode cX12_up 26 = .ok (.ireturn, 1) := by decide +kernel
theorem dX12_up_27 : decode cX12_up 27 = .ok (.aload_n 0, 1) := by decide +kernel
theorem dX12_up_28 : decode cX12_up 28 = .ok (.invokevirtual 247, 3) := by decide +kernel
theorem dX12_up_31 : decode cX12_up 31 = .ok (.aload_n 0, 1) := by decide +kernel
theorem dX12_up_32 : decode cX12_up 32 = .ok (.iload_n 1, 1) := by decide +kernel
theorem dX12_up_33 : decode cX12_up 33 = .ok (.invokevirtual 308, 3) := by decide +kernel
theorem dX12_up_36 : decode cX12_up 36 = .ok (.iconst 1, 1) := by decide +kernel
theorem dX12_up_37 : decode cX12_up 37 = .ok (.ireturn, 1) := by decide +kernel
theorem dX12_down_0 : decode cX12_down 0 = .ok (.aload_n 0, 1) := by decide +kernel
theorem dX12_down_1 : decode cX12_down 1 = .ok (.iconst 0, 1) := by decide +kernel
theorem dX12_down_2 : decode cX12_down 2 = .ok (.putfield 46, 3) := by decide +kernel
theorem dX12_down_5 : decode cX12_down 5 = .ok (.aload_n 0, 1) := by decide +kernel
theorem dX12_down_6 : decode cX12_down 6 = .ok (.iload_n 1, 1) := by decide +kernel
theorem dX12_down_7 : decode cX12_down 7 = .ok (.invokevirtual 262, 3) := by decide +kernel
theorem dX12_down_10 : decode cX12_down 10 = .ok (.ifCond .ne 6, 3) := by decide +kernel
theorem dX12_down_13 : decode cX12_down 13 = .ok (.bipush (-2), 2) := by decide +kernel
theorem dX12_down_15 : decode cX12_down 15 = .ok (.ireturn, 1) := by decide +kernel
theorem dX12_down_16 : decode cX12_down 16 = .ok (.aload_n 0, 1) := by decide +kernel
theorem dX12_down_17 : decode cX12_down 17 = .ok (.iload_n 1, 1) := by decide +kernel
theorem dX12_down_18 : decode cX12_down 18 = .ok (.invokevirtual 305, 3) := by decide +kernel
theorem dX12_down_21 : decode cX12_down 21 = .ok (.ifCond .ne 6, 3) := by decide +kernel
theorem dX12_down_24 : decode cX12_down 24 = .ok (.bipush (-3), 2) := by decide +kernel
theorem dX12_down_26 : decode cX12_down 26 = .ok (.ireturn, 1) := by decide +kernel
theorem dX12_down_27 : decode cX12_down 27 = .ok (.aload_n 0, 1) := by decide +kernel
theorem dX12_down_28 : decode cX12_down 28 = .ok (.invokevirtual 247, 3) := by decide +kernel
theorem dX12_down_31 : decode cX12_down 31 = .ok (.aload_n 0, 1) := by decide +kernel
theorem dX12_down_32 : decode cX12_down 32 = .ok (.iload_n 1, 1) := by decide +kernel
theorem dX12_down_33 : decode cX12_down 33 = .ok (.iload_n 2, 1) := by decide +kernel
theorem dX12_down_34 : decode cX12_down 34 = .ok (.invokevirtual 311, 3) := by decide +kernel
theorem dX12_down_37 : decode cX12_down 37 = .ok (.ireturn, 1) := by decide +kernel
theorem dX12_cut_0 : decode cX12_cut 0 = .ok (.aload_n 0, 1) := by decide +kernel
theorem dX12_cut_1 : decode cX12_cut 1 = .ok (.iconst 0, 1) := by decide +kernel
theorem dX12_cut_2 : decode cX12_cut 2 = .ok (.putfield 46, 3) := by decide +kernel
theorem dX12_cut_5 : decode cX12_cut 5 = .ok (.iload_n 1, 1) := by decide +kernel
theorem dX12_cut_6 : decode cX12_cut 6 = .ok (.i2l, 1) := by decide +kernel
theorem dX12_cut_7 : decode cX12_cut 7 = .ok (.lconst 0, 1) := by decide +kernel
theorem dX12_cut_8 : decode cX12_cut 8 = .ok (.aload_n 0, 1) := by decide +kernel
theorem dX12_cut_9 : decode cX12_cut 9 = .ok (.getfield 17, 3) := by decide +kernel
theorem dX12_cut_12 : decode cX12_cut 12 = .ok (.iconst 1, 1) := by decide +kernel
theorem dX12_cut_13 : decode cX12_cut 13 = .ok (.iaload, 1) := by decide +kernel
theorem dX12_cut_14 : decode cX12_cut 14 = .ok (.iconst 1, 1) := by decide +kernel
theorem dX12_cut_15 : decode cX12_cut 15 = .ok (.isub, 1) := by decide +kernel
theorem dX12_cut_16 : decode cX12_cut 16 = .ok (.i2l, 1) := by decide +kernel
theorem dX12_cut_17 : decode cX12_cut 17 = .ok (.invokestatic 56, 3) := by decide +kernel
theorem dX12_cut_20 : decode cX12_cut 20 = .ok (.ifCond .ne 6, 3) := by decide +kernel
theorem dX12_cut_23 : decode cX12_cut 23 = .ok (.bipush (-2), 2) := by decide +kernel
theorem dX12_cut_25 : decode cX12_cut 25 = .ok (.ireturn, 1) := by decide +kernel
theorem dX12_cut_26 : decode cX12_cut 26 = .ok (.aload_n 0, 1) := by decide +kernel
theorem dX12_cut_27 : decode cX12_cut 27 = .ok (.getfield 27, 3) := by decide +kernel
theorem dX12_cut_30 : decode cX12_cut 30 = .ok (.iconst 2, 1) := by decide +kernel
theorem dX12_cut_31 : decode cX12_cut 31 = .ok (.iaload, 1) := by decide +kernel
theorem dX12_cut_32 : decode cX12_cut 32 = .ok (.iload_n 1, 1) := by decide +kernel
theorem dX12_cut_33 : decode cX12_cut 33 = .ok (.invokestatic 186, 3) := by decide +kernel
theorem dX12_cut_36 : decode cX12_cut 36 = .ok (.iload_n 2, 1) := by decide +kernel
theorem dX12_cut_37 : decode cX12_cut 37 = .ok (.if_icmp .ne 6, 3) := by decide +kernel
theorem dX12_cut_40 : decode cX12_cut 40 = .ok (.bipush (-3), 2) := by decide +kernel
theorem dX12_cut_42 : decode cX12_cut 42 = .ok (.ireturn, 1) := by decide +kernel
theorem dX12_cut_43 : decode cX12_cut 43 = .ok (.aload_n 0, 1) := by decide +kernel
theorem dX12_cut_44 : decode cX12_cut 44 = .ok (.invokevirtual 247, 3) := by decide +kernel
theorem dX12_cut_47 : decode cX12_cut 47 = .ok (.aload_n 0, 1) := by decide +kernel
theorem dX12_cut_48 : decode cX12_cut 48 = .ok (.getfield 27, 3) := by decide +kernel
theorem dX12_cut_51 : decode cX12_cut 51 = .ok (.iconst 2, 1) := by decide +kernel
theorem dX12_cut_52 : decode cX12_cut 52 = .ok (.dup2, 1) := by decide +kernel
theorem dX12_cut_53 : decode cX12_cut 53 = .ok (.iaload, 1) := by decide +kernel
theorem dX12_cut_54 : decode cX12_cut 54 = .ok (.iconst 1, 1) := by decide +kernel
theorem dX12_cut_55 : decode cX12_cut 55 = .ok (.iload_n 1, 1) := by decide +kernel
theorem dX12_cut_56 : decode cX12_cut 56 = .ok (.ishl, 1) := by decide +kernel
theorem dX12_cut_57 : decode cX12_cut 57 = .ok (.ixor, 1) := by decide +kernel
theorem dX12_cut_58 : decode cX12_cut 58 = .ok (.iastore, 1) := by decide +kernel
theorem dX12_cut_59 : decode cX12_cut 59 = .ok (.iconst 1, 1) := by decide +kernel
theorem dX12_cut_60 : decode cX12_cut 60 = .ok (.ireturn, 1) := by decide +kernel
theorem dX12_split_0 : decode cX12_split 0 = .ok (.aload_n 0, 1) := by decide +kernel
theorem dX12_split_1 : decode cX12_split 1 = .ok (.iconst 0, 1) := by decide +kernel
theorem dX12_split_2 : decode cX12_split 2 = .ok (.putfield 46, 3) := by decide +kernel
theorem dX12_split_5 : decode cX12_split 5 = .ok (.aload_n 0, 1) := by decide +kernel
theorem dX12_split_6 : decode cX12_split 6 = .ok (.getfield 224, 3) := by decide +kernel
theorem dX12_split_9 : decode cX12_split 9 = .ok (.ifCond .eq 21, 3) := by decide +kernel
theorem dX12_split_12 : decode cX12_split 12 = .ok (.iload_n 1, 1) := by decide +kernel
theorem dX12_split_13 : decode cX12_split 13 = .ok (.i2l, 1) := by decide +kernel
theorem dX12_split_14 : decode cX12_split 14 = .ok (.lconst 0, 1) := by decide +kernel
theorem dX12_split_15 : decode cX12_split 15 = .ok (.iconst 1, 1) := by decide +kernel
theorem dX12_split_16 : decode cX12_split 16 = .ok (.aload_n 0, 1) := by decide +kernel
theorem dX12_split_17 : decode cX12_split 17 = .ok (.invokevirtual 256, 3) := by decide +kernel
theorem dX12_split_20 : decode cX12_split 20 = .ok (.ishl, 1) := by decide +kernel
theorem dX12_split_21 : decode cX12_split 21 = .ok (.iconst 1, 1) := by decide +kernel
theorem dX12_split_22 : decode cX12_split 22 = .ok (.isub, 1) := by decide +kernel
theorem dX12_split_23 : decode cX12_split 23 = .ok (.i2l, 1) := by decide +kernel
theorem dX12_split_24 : decode cX12_split 24 = .ok (.invokestatic 56, 3) := by decide +kernel
theorem dX12_split_27 : decode cX12_split 27 = .ok (.ifCond .ne 6, 3) := by decide +kernel
theorem dX12_split_30 : decode cX12_split 30 = .ok (.bipush (-2), 2) := by decide +kernel
theorem dX12_split_32 : decode cX12_split 32 = .ok (.ireturn, 1) := by decide +kernel
theorem dX12_split_33 : decode cX12_split 33 = .ok (.aload_n 0, 1) := by decide +kernel
theorem dX12_split_34 : decode cX12_split 34 = .ok (.getfield 27, 3) := by decide +kernel
theorem dX12_split_37 : decode cX12_split 37 = .ok (.iconst 3, 1) := by decide +kernel
theorem dX12_split_38 : decode cX12_split 38 = .ok (.iaload, 1) := by decide +kernel
theorem dX12_split_39 : decode cX12_split 39 = .ok (.iload_n 1, 1) := by decide +kernel
theorem dX12_split_40 : decode cX12_split 40 = .ok (.if_icmp .ne 6, 3) := by decide +kernel
theorem dX12_split_43 : decode cX12_split 43 = .ok (.bipush (-3), 2) := by decide +kernel
theorem dX12_split_45 : decode cX12_split 45 = .ok (.ireturn, 1) := by decide +kernel
theorem dX12_split_46 : decode cX12_split 46 = .ok (.aload_n 0, 1) := by decide +kernel
theorem dX12_split_47 : decode cX12_split 47 = .ok (.invokevirtual 247, 3) := by decide +kernel
theorem dX12_split_50 : decode cX12_split 50 = .ok (.aload_n 0, 1) := by decide +kernel
theorem dX12_split_51 : decode cX12_split 51 = .ok (.getfield 27, 3) := by decide +kernel
theorem dX12_split_54 : decode cX12_split 54 = .ok (.iconst 3, 1) := by decide +kernel
theorem dX12_split_55 : decode cX12_split 55 = .ok (.iload_n 1, 1) := by decide +kernel
theorem dX12_split_56 : decode cX12_split 56 = .ok (.iastore, 1) := by decide +kernel
theorem dX12_split_57 : decode cX12_split 57 = .ok (.iconst 1, 1) := by decide +kernel
theorem dX12_split_58 : decode cX12_split 58 = .ok (.ireturn, 1) := by decide +kernel
theorem dX12_word_0 : decode cX12_word 0 = .ok (.aload_n 0, 1) := by decide +kernel
theorem dX12_word_1 : decode cX12_word 1 = .ok (.iconst 0, 1) := by decide +kernel
theorem dX12_word_2 : decode cX12_word 2 = .ok (.putfield 46, 3) := by decide +kernel
theorem dX12_word_5 : decode cX12_word 5 = .ok (.aload_n 0, 1) := by decide +kernel
theorem dX12_word_6 : decode cX12_word 6 = .ok (.iload_n 1, 1) := by decide +kernel
theorem dX12_word_7 : decode cX12_word 7 = .ok (.iload_n 2, 1) := by decide +kernel
theorem dX12_word_8 : decode cX12_word 8 = .ok (.invokevirtual 287, 3) := by decide +kernel
theorem dX12_word_11 : decode cX12_word 11 = .ok (.ifCond .eq 15, 3) := by decide +kernel
theorem dX12_word_14 : decode cX12_word 14 = .ok (.iload_n 3, 1) := by decide +kernel
theorem dX12_word_15 : decode cX12_word 15 = .ok (.i2l, 1) := by decide +kernel
theorem dX12_word_16 : decode cX12_word 16 = .ok (.lconst 1, 1) := by decide +kernel
theorem dX12_word_17 : decode cX12_word 17 = .ok (.ldc2_w 372, 3) := by decide +kernel
theorem dX12_word_20 : decode cX12_word 20 = .ok (.invokestatic 56, 3) := by decide +kernel
theorem dX12_word_23 : decode cX12_word 23 = .ok (.ifCond .ne 6, 3) := by decide +kernel
theorem dX12_word_26 : decode cX12_word 26 = .ok (.bipush (-2), 2) := by decide +kernel
theorem dX12_word_28 : decode cX12_word 28 = .ok (.ireturn, 1) := by decide +kernel
theorem dX12_word_29 : decode cX12_word 29 = .ok (.aload_n 0, 1) := by decide +kernel
theorem dX12_word_30 : decode cX12_word 30 = .ok (.invokevirtual 247, 3) := by decide +kernel
theorem dX12_word_33 : decode cX12_word 33 = .ok (.aload_n 0, 1) := by decide +kernel
theorem dX12_word_34 : decode cX12_word 34 = .ok (.getfield 27, 3) := by decide +kernel
theorem dX12_word_37 : decode cX12_word 37 = .ok (.bipush 10, 2) := by decide +kernel
theorem dX12_word_39 : decode cX12_word 39 = .ok (.iload_n 1, 1) := by decide +kernel
theorem dX12_word_40 : decode cX12_word 40 = .ok (.iload_n 2, 1) := by decide +kernel
theorem dX12_word_41 : decode cX12_word 41 = .ok (.invokestatic 190, 3) := by decide +kernel
theorem dX12_word_44 : decode cX12_word 44 = .ok (.iadd, 1) := by decide +kernel
theorem dX12_word_45 : decode cX12_word 45 = .ok (.iaload, 1) := by decide +kernel
theorem dX12_word_46 : decode cX12_word 46 = .ok (.istore 4, 2) := by decide +kernel
theorem dX12_word_48 : decode cX12_word 48 = .ok (.aload_n 0, 1) := by decide +kernel
theorem dX12_word_49 : decode cX12_word 49 = .ok (.getfield 27, 3) := by decide +kernel
theorem dX12_word_52 : decode cX12_word 52 = .ok (.bipush 10, 2) := by decide +kernel
theorem dX12_word_54 : decode cX12_word 54 = .ok (.iload_n 1, 1) := by decide +kernel
theorem dX12_word_55 : decode cX12_word 55 = .ok (.iload_n 2, 1) := by decide +kernel
theorem dX12_word_56 : decode cX12_word 56 = .ok (.invokestatic 190, 3) := by decide +kernel
theorem dX12_word_59 : decode cX12_word 59 = .ok (.iadd, 1) := by decide +kernel
theorem dX12_word_60 : decode cX12_word 60 = .ok (.iload_n 3, 1) := by decide +kernel
theorem dX12_word_61 : decode cX12_word 61 = .ok (.iastore, 1) := by decide +kernel
theorem dX12_word_62 : decode cX12_word 62 = .ok (.iload 4, 2) := by decide +kernel
theorem dX12_word_64 : decode cX12_word 64 = .ok (.ireturn, 1) := by decide +kernel
theorem dX12_chance_0 : decode cX12_chance 0 = .ok (.aload_n 0, 1) := by decide +kernel
theorem dX12_chance_1 : decode cX12_chance 1 = .ok (.iconst 0, 1) := by decide +kernel
theorem dX12_chance_2 : decode cX12_chance 2 = .ok (.putfield 46, 3) := by decide +kernel
theorem dX12_chance_5 : decode cX12_chance 5 = .ok (.aload_n 0, 1) := by decide +kernel
theorem dX12_chance_6 : decode cX12_chance 6 = .ok (.getfield 224, 3) := by decide +kernel
theorem dX12_chance_9 : decode cX12_chance 9 = .ok (.ifCond .eq 19, 3) := by decide +kernel
theorem dX12_chance_12 : decode cX12_chance 12 = .ok (.iload_n 1, 1) := by decide +kernel
theorem dX12_chance_13 : decode cX12_chance 13 = .ok (.i2l, 1) := by decide +kernel
theorem dX12_chance_14 : decode cX12_chance 14 = .ok (.lconst 0, 1) := by decide +kernel
theorem dX12_chance_15 : decode cX12_chance 15 = .ok (.ldc2_w 374, 3) := by decide +kernel
theorem dX12_chance_18 : decode cX12_chance 18 = .ok (.invokestatic 56, 3) := by decide +kernel
theorem dX12_chance_21 : decode cX12_chance 21 = .ok (.ifCond .eq 7, 3) := by decide +kernel
theorem dX12_chance_24 : decode cX12_chance 24 = .ok (.iload_n 2, 1) := by decide +kernel
theorem dX12_chance_25 : decode cX12_chance 25 = .ok (.ifCond .ge 6, 3) := by decide +kernel
theorem dX12_chance_28 : decode cX12_chance 28 = .ok (.bipush (-2), 2) := by decide +kernel
theorem dX12_chance_30 : decode cX12_chance 30 = .ok (.ireturn, 1) := by decide +kernel
theorem dX12_chance_31 : decode cX12_chance 31 = .ok (.aload_n 0, 1) := by decide +kernel
theorem dX12_chance_32 : decode cX12_chance 32 = .ok (.invokevirtual 247, 3) := by decide +kernel
theorem dX12_chance_35 : decode cX12_chance 35 = .ok (.aload_n 0, 1) := by decide +kernel
theorem dX12_chance_36 : decode cX12_chance 36 = .ok (.getfield 27, 3) := by decide +kernel
theorem dX12_chance_39 : decode cX12_chance 39 = .ok (.iconst 4, 1) := by decide +kernel
theorem dX12_chance_40 : decode cX12_chance 40 = .ok (.iload_n 1, 1) := by decide +kernel
theorem dX12_chance_41 : decode cX12_chance 41 = .ok (.iastore, 1) := by decide +kernel
theorem dX12_chance_42 : decode cX12_chance 42 = .ok (.aload_n 0, 1) := by decide +kernel
theorem dX12_chance_43 : decode cX12_chance 43 = .ok (.getfield 27, 3) := by decide +kernel
theorem dX12_chance_46 : decode cX12_chance 46 = .ok (.bipush 9, 2) := by decide +kernel
theorem dX12_chance_48 : decode cX12_chance 48 = .ok (.iload_n 2, 1) := by decide +kernel
theorem dX12_chance_49 : decode cX12_chance 49 = .ok (.iastore, 1) := by decide +kernel
theorem dX12_chance_50 : decode cX12_chance 50 = .ok (.iconst 1, 1) := by decide +kernel
theorem dX12_chance_51 : decode cX12_chance 51 = .ok (.ireturn, 1) := by decide +kernel
theorem dX12_strongestOf_0 : decode cX12_strongestOf 0 = .ok (.iconst (-1), 1) := by decide +kernel
theorem dX12_strongestOf_1 : decode cX12_strongestOf 1 = .ok (.istore_n 3, 1) := by decide +kernel
theorem dX12_strongestOf_2 : decode cX12_strongestOf 2 = .ok (.iconst 0, 1) := by decide +kernel
theorem dX12_strongestOf_3 : decode cX12_strongestOf 3 = .ok (.istore 4, 2) := by decide +kernel
theorem dX12_strongestOf_5 : decode cX12_strongestOf 5 = .ok (.iload 4, 2) := by decide +kernel
theorem dX12_strongestOf_7 : decode cX12_strongestOf 7 = .ok (.aload_n 0, 1) := by decide +kernel
theorem dX12_strongestOf_8 : decode cX12_strongestOf 8 = .ok (.invokevirtual 256, 3) := by decide +kernel
theorem dX12_strongestOf_11 : decode cX12_strongestOf 11 = .ok (.if_icmp .ge 48, 3) := by decide +kernel
theorem dX12_strongestOf_14 : decode cX12_strongestOf 14 = .ok (.iload_n 2, 1) := by decide +kernel
theorem dX12_strongestOf_15 : decode cX12_strongestOf 15 = .ok (.iload 4, 2) := by decide +kernel
theorem dX12_strongestOf_17 : decode cX12_strongestOf 17 = .ok (.invokestatic 186, 3) := by decide +kernel
theorem dX12_strongestOf_20 : decode cX12_strongestOf 20 = .ok (.ifCond .eq 33, 3) := by decide +kernel
theorem dX12_strongestOf_23 : decode cX12_strongestOf 23 = .ok (.iload_n 3, 1) := by decide +kernel
theorem dX12_strongestOf_24 : decode cX12_strongestOf 24 = .ok (.iconst (-1), 1) := by decide +kernel
theorem dX12_strongestOf_25 : decode cX12_strongestOf 25 = .ok (.if_icmp .eq 25, 3) := by decide +kernel
theorem dX12_strongestOf_28 : decode cX12_strongestOf 28 = .ok (.aload_n 0, 1) := by decide +kernel
theorem dX12_strongestOf_29 : decode cX12_strongestOf 29 = .ok (.iload_n 1, 1) := by decide +kernel
theorem dX12_strongestOf_30 : decode cX12_strongestOf 30 = .ok (.iload 4, 2) := by decide +kernel
theorem dX12_strongestOf_32 : decode cX12_strongestOf 32 = .ok (.invokevirtual 268, 3) := by decide +kernel
theorem dX12_strongestOf_35 : decode cX12_strongestOf 35 = .ok (.iload 4, 2) := by decide +kernel
theorem dX12_strongestOf_37 : decode cX12_strongestOf 37 = .ok (.aload_n 0, 1) := by decide +kernel
theorem dX12_strongestOf_38 : decode cX12_strongestOf 38 = .ok (.iload_n 1, 1) := by decide +kernel
theorem dX12_strongestOf_39 : decode cX12_strongestOf 39 = .ok (.iload_n 3, 1) := by decide +kernel
theorem dX12_strongestOf_40 : decode cX12_strongestOf 40 = .ok (.invokevirtual 268, 3) := by decide +kernel
theorem dX12_strongestOf_43 : decode cX12_strongestOf 43 = .ok (.iload_n 3, 1) := by decide +kernel
theorem dX12_strongestOf_44 : decode cX12_strongestOf 44 = .ok (.invokestatic 325, 3) := by decide +kernel
theorem dX12_strongestOf_47 : decode cX12_strongestOf 47 = .ok (.ifCond .eq 6, 3) := by decide +kernel
theorem dX12_strongestOf_50 : decode cX12_strongestOf 50 = .ok (.iload 4, 2) := by decide +kernel
theorem dX12_strongestOf_52 : decode cX12_strongestOf 52 = .ok (.istore_n 3, 1) := by decide +kernel
theorem dX12_strongestOf_53 : decode cX12_strongestOf 53 = .ok (.iinc 4 1, 3) := by decide +kernel
theorem dX12_strongestOf_56 : decode cX12_strongestOf 56 = .ok (.goto (-51), 3) := by decide +kernel
theorem dX12_strongestOf_59 : decode cX12_strongestOf 59 = .ok (.iload_n 3, 1) := by decide +kernel
theorem dX12_strongestOf_60 : decode cX12_strongestOf 60 = .ok (.ireturn, 1) := by decide +kernel
theorem dX12_partOf_0 : decode cX12_partOf 0 = .ok (.iconst 1, 1) := by decide +kernel
theorem dX12_partOf_1 : decode cX12_partOf 1 = .ok (.aload_n 0, 1) := by decide +kernel
theorem dX12_partOf_2 : decode cX12_partOf 2 = .ok (.invokevirtual 256, 3) := by decide +kernel
theorem dX12_partOf_5 : decode cX12_partOf 5 = .ok (.ishl, 1) := by decide +kernel
theorem dX12_partOf_6 : decode cX12_partOf 6 = .ok (.iconst 1, 1) := by decide +kernel
theorem dX12_partOf_7 : decode cX12_partOf 7 = .ok (.isub, 1) := by decide +kernel
theorem dX12_partOf_8 : decode cX12_partOf 8 = .ok (.istore_n 2, 1) := by decide +kernel
theorem dX12_partOf_9 : decode cX12_partOf 9 = .ok (.aload_n 0, 1) := by decide +kernel
theorem dX12_partOf_10 : decode cX12_partOf 10 = .ok (.getfield 27, 3) := by decide +kernel
theorem dX12_partOf_13 : decode cX12_partOf 13 = .ok (.iconst 3, 1) := by decide +kernel
theorem dX12_partOf_14 : decode cX12_partOf 14 = .ok (.iaload, 1) := by decide +kernel
theorem dX12_partOf_15 : decode cX12_partOf 15 = .ok (.iload_n 1, 1) := by decide +kernel
theorem dX12_partOf_16 : decode cX12_partOf 16 = .ok (.invokestatic 186, 3) := by decide +kernel
theorem dX12_partOf_19 : decode cX12_partOf 19 = .ok (.ifCond .eq 12, 3) := by decide +kernel
theorem dX12_partOf_22 : decode cX12_partOf 22 = .ok (.aload_n 0, 1) := by decide +kernel
theorem dX12_partOf_23 : decode cX12_partOf 23 = .ok (.getfield 27, 3) := by decide +kernel
theorem dX12_partOf_26 : decode cX12_partOf 26 = .ok (.iconst 3, 1) := by decide +kernel
theorem dX12_partOf_27 : decode cX12_partOf 27 = .ok (.iaload, 1) := by decide +kernel
theorem dX12_partOf_28 : decode cX12_partOf 28 = .ok (.goto 13, 3) := by decide +kernel
theorem dX12_partOf_31 : decode cX12_partOf 31 = .ok (.iload_n 2, 1) := by decide +kernel
theorem dX12_partOf_32 : decode cX12_partOf 32 = .ok (.aload_n 0, 1) := by decide +kernel
theorem dX12_partOf_33 : decode cX12_partOf 33 = .ok (.getfield 27, 3) := by decide +kernel
theorem dX12_partOf_36 : decode cX12_partOf 36 = .ok (.iconst 3, 1) := by decide +kernel
theorem dX12_partOf_37 : decode cX12_partOf 37 = .ok (.iaload, 1) := by decide +kernel
theorem dX12_partOf_38 : decode cX12_partOf 38 = .ok (.iconst (-1), 1) := by decide +kernel
theorem dX12_partOf_39 : decode cX12_partOf 39 = .ok (.ixor, 1) := by decide +kernel
theorem dX12_partOf_40 : decode cX12_partOf 40 = .ok (.iand, 1) := by decide +kernel
theorem dX12_partOf_41 : decode cX12_partOf 41 = .ok (.ireturn, 1) := by decide +kernel
theorem dX12_holderOf_0 : decode cX12_holderOf 0 = .ok (.aload_n 0, 1) := by decide +kernel
theorem dX12_holderOf_1 : decode cX12_holderOf 1 = .ok (.iload_n 1, 1) := by decide +kernel
theorem dX12_holderOf_2 : decode cX12_holderOf 2 = .ok (.aload_n 0, 1) := by decide +kernel
theorem dX12_holderOf_3 : decode cX12_holderOf 3 = .ok (.iload_n 1, 1) := by decide +kernel
theorem dX12_holderOf_4 : decode cX12_holderOf 4 = .ok (.iconst 2, 1) := by decide +kernel
theorem dX12_holderOf_5 : decode cX12_holderOf 5 = .ok (.invokevirtual 338, 3) := by decide +kernel
theorem dX12_holderOf_8 : decode cX12_holderOf 8 = .ok (.aload_n 0, 1) := by decide +kernel
theorem dX12_holderOf_9 : decode cX12_holderOf 9 = .ok (.iload_n 2, 1) := by decide +kernel
theorem dX12_holderOf_10 : decode cX12_holderOf 10 = .ok (.invokevirtual 376, 3) := by decide +kernel
