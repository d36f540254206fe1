theorem dX9_copyNumbers_0 : decode cX9_copyNumbers 0 = .ok (.aload_n 0, 1) := by decide +kernel
theorem dX9_copyNumbers_1 : decode cX9_copyNumbers 1 = .ok (.aload_n 1, 1) := by decide +kernel
theorem dX9_copyNumbers_2 : decode cX9_copyNumbers 2 = .ok (.getfield 70, 3) := by decide +kernel
theorem dX9_copyNumbers_5 : decode cX9_copyNumbers 5 = .ok (.putfield 70, 3) := by decide +kernel
theorem dX9_copyNumbers_8 : decode cX9_copyNumbers 8 = .ok (.aload_n 0, 1) := by decide +kernel
theorem dX9_copyNumbers_9 : decode cX9_copyNumbers 9 = .ok (.aload_n 1, 1) := by decide +kernel
theorem dX9_copyNumbers_10 : decode cX9_copyNumbers 10 = .ok (.getfield 74, 3) := by decide +kernel
theorem dX9_copyNumbers_13 : decode cX9_copyNumbers 13 = .ok (.putfield 74, 3) := by decide +kernel
theorem dX9_copyNumbers_16 : decode cX9_copyNumbers 16 = .ok (.aload_n 0, 1) := by decide +kernel
theorem dX9_copyNumbers_17 : decode cX9_copyNumbers 17 = .ok (.aload_n 1, 1) := by decide +kernel
theorem dX9_copyNumbers_18 : decode cX9_copyNumbers 18 = .ok (.getfield 77, 3) := by decide +kernel
theorem dX9_copyNumbers_21 : decode cX9_copyNumbers 21 = .ok (.putfield 77, 3) := by decide +kernel
theorem dX9_copyNumbers_24 : decode cX9_copyNumbers 24 = .ok (.aload_n 0, 1) := by decide +kernel
theorem dX9_copyNumbers_25 : decode cX9_copyNumbers 25 = .ok (.aload_n 1, 1) := by decide +kernel
theorem dX9_copyNumbers_26 : decode cX9_copyNumbers 26 = .ok (.getfield 80, 3) := by decide +kernel
theorem dX9_copyNumbers_29 : decode cX9_copyNumbers 29 = .ok (.putfield 80, 3) := by decide +kernel
theorem dX9_copyNumbers_32 : decode cX9_copyNumbers 32 = .ok (.aload_n 0, 1) := by decide +kernel
theorem dX9_copyNumbers_33 : decode cX9_copyNumbers 33 = .ok (.aload_n 1, 1) := by decide +kernel
theorem dX9_copyNumbers_34 : decode cX9_copyNumbers 34 = .ok (.getfield 83, 3) := by decide +kernel
theorem dX9_copyNumbers_37 : decode cX9_copyNumbers 37 = .ok (.putfield 83, 3) := by decide +kernel
theorem dX9_copyNumbers_40 : decode cX9_copyNumbers 40 = .ok (.aload_n 0, 1) := by decide +kernel
theorem dX9_copyNumbers_41 : decode cX9_copyNumbers 41 = .ok (.aload_n 1, 1) := by decide +kernel
theorem dX9_copyNumbers_42 : decode cX9_copyNumbers 42 = .ok (.getfield 86, 3) := by decide +kernel
theorem dX9_copyNumbers_45 : decode cX9_copyNumbers 45 = .ok (.putfield 86, 3) := by decide +kernel
theorem dX9_copyNumbers_48 : decode cX9_copyNumbers 48 = .ok (.aload_n 0, 1) := by decide +kernel
theorem dX9_copyNumbers_49 : decode cX9_copyNumbers 49 = .ok (.aload_n 1, 1) := by decide +kernel
theorem dX9_copyNumbers_50 : decode cX9_copyNumbers 50 = .ok (.getfield 89, 3) := by decide +kernel
theorem dX9_copyNumbers_53 : decode cX9_copyNumbers 53 = .ok (.putfield 89, 3) := by decide +kernel
theorem dX9_copyNumbers_56 : decode cX9_copyNumbers 56 = .ok (.aload_n 0, 1) := by decide +kernel
theorem dX9_copyNumbers_57 : decode cX9_copyNumbers 57 = .ok (.aload_n 1, 1) := by decide +kernel
theorem dX9_copyNumbers_58 : decode cX9_copyNumbers 58 = .ok (.getfield 92, 3) := by decide +kernel
theorem dX9_copyNumbers_61 : decode cX9_copyNumbers 61 = .ok (.putfield 92, 3) := by decide +kernel
theorem dX9_copyNumbers_64 : decode cX9_copyNumbers 64 = .ok (.aload_n 0, 1) := by decide +kernel
theorem dX9_copyNumbers_65 : decode cX9_copyNumbers 65 = .ok (.aload_n 1, 1) := by decide +kernel
theorem dX9_copyNumbers_66 : decode cX9_copyNumbers 66 = .ok (.getfield 95, 3) := by decide +kernel
theorem dX9_copyNumbers_69 : decode cX9_copyNumbers 69 = .ok (.putfield 95, 3) := by decide +kernel
theorem dX9_copyNumbers_72 : decode cX9_copyNumbers 72 = .ok (.return_, 1) := by decide +kernel
theorem dX9_copyFrom_0 : decode cX9_copyFrom 0 = .ok (.aload_n 0, 1) := by decide +kernel
theorem dX9_copyFrom_1 : decode cX9_copyFrom 1 = .ok (.aload_n 1, 1) := by decide +kernel
theorem dX9_copyFrom_2 : decode cX9_copyFrom 2 = .ok (.invokevirtual 53, 3) := by decide +kernel
theorem dX9_copyFrom_5 : decode cX9_copyFrom 5 = .ok (.aload_n 0, 1) := by decide +kernel
theorem dX9_copyFrom_6 : decode cX9_copyFrom 6 = .ok (.getfield 12, 3) := by decide +kernel
theorem dX9_copyFrom_9 : decode cX9_copyFrom 9 = .ok (.aload_n 1, 1) := by decide +kernel
theorem dX9_copyFrom_10 : decode cX9_copyFrom 10 = .ok (.getfield 12, 3) := by decide +kernel
theorem dX9_copyFrom_13 : decode cX9_copyFrom 13 = .ok (.invokevirtual 57, 3) := by decide +kernel
theorem dX9_copyFrom_16 : decode cX9_copyFrom 16 = .ok (.aload_n 0, 1) := by decide +kernel
theorem dX9_copyFrom_17 : decode cX9_copyFrom 17 = .ok (.getfield 21, 3) := by decide +kernel
theorem dX9_copyFrom_20 : decode cX9_copyFrom 20 = .ok (.aload_n 1, 1) := by decide +kernel
theorem dX9_copyFrom_21 : decode cX9_copyFrom 21 = .ok (.getfield 21, 3) := by decide +kernel
theorem dX9_copyFrom_24 : decode cX9_copyFrom 24 = .ok (.invokevirtual 61, 3) := by decide +kernel
theorem dX9_copyFrom_27 : decode cX9_copyFrom 27 = .ok (.aload_n 1, 1) := by decide +kernel
theorem dX9_copyFrom_28 : decode cX9_copyFrom 28 = .ok (.getfield 25, 3) := by decide +kernel
theorem dX9_copyFrom_31 : decode cX9_copyFrom 31 = .ok (.iconst 0, 1) := by decide +kernel
theorem dX9_copyFrom_32 : decode cX9_copyFrom 32 = .ok (.aload_n 0, 1) := by decide +kernel
theorem dX9_copyFrom_33 : decode cX9_copyFrom 33 = .ok (.getfield 25, 3) := by decide +kernel
theorem dX9_copyFrom_36 : decode cX9_copyFrom 36 = .ok (.iconst 0, 1) := by decide +kernel
theorem dX9_copyFrom_37 : decode cX9_copyFrom 37 = .ok (.iconst 5, 1) := by decide +kernel
theorem dX9_copyFrom_38 : decode cX9_copyFrom 38 = .ok (.invokestatic 64, 3) := by decide +kernel
theorem dX9_copyFrom_41 : decode cX9_copyFrom 41 = .ok (.aload_n 1, 1) := by decide +kernel
theorem dX9_copyFrom_42 : decode cX9_copyFrom 42 = .ok (.getfield 29, 3) := by decide +kernel
theorem dX9_copyFrom_45 : decode cX9_copyFrom 45 = .ok (.iconst 0, 1) := by decide +kernel
theorem dX9_copyFrom_46 : decode cX9_copyFrom 46 = .ok (.aload_n 0, 1) := by decide +kernel
theorem dX9_copyFrom_47 : decode cX9_copyFrom 47 = .ok (.getfield 29, 3) := by decide +kernel
theorem dX9_copyFrom_50 : decode cX9_copyFrom 50 = .ok (.iconst 0, 1) := by decide +kernel
theorem dX9_copyFrom_51 : decode cX9_copyFrom 51 = .ok (.iconst 5, 1) := by decide +kernel
theorem dX9_copyFrom_52 : decode cX9_copyFrom 52 = .ok (.invokestatic 64, 3) := by decide +kernel
theorem dX9_copyFrom_55 : decode cX9_copyFrom 55 = .ok (.aload_n 1, 1) := by decide +kernel
theorem dX9_copyFrom_56 : decode cX9_copyFrom 56 = .ok (.getfield 32, 3) := by decide +kernel
theorem dX9_copyFrom_59 : decode cX9_copyFrom 59 = .ok (.iconst 0, 1) := by decide +kernel
theorem dX9_copyFrom_60 : decode cX9_copyFrom 60 = .ok (.aload_n 0, 1) := by decide +kernel
theorem dX9_copyFrom_61 : decode cX9_copyFrom 61 = .ok (.getfield 32, 3) := by decide +kernel
theorem dX9_copyFrom_64 : decode cX9_copyFrom 64 = .ok (.iconst 0, 1) := by decide +kernel
theorem dX9_copyFrom_65 : decode cX9_copyFrom 65 = .ok (.iconst 5, 1) := by decide +kernel
theorem dX9_copyFrom_66 : decode cX9_copyFrom 66 = .ok (.invokestatic 64, 3) := by decide +kernel
theorem dX9_copyFrom_69 : decode cX9_copyFrom 69 = .ok (.aload_n 1, 1) := by decide +kernel
theorem dX9_copyFrom_70 : decode cX9_copyFrom 70 = .ok (.getfield 35, 3) := by decide +kernel
theorem dX9_copyFrom_73 : decode cX9_copyFrom 73 = .ok (.iconst 0, 1) := by decide +kernel
theorem dX9_copyFrom_74 : decode cX9_copyFrom 74 = .ok (.aload_n 0, 1) := by decide +kernel
theorem dX9_copyFrom_75 : decode cX9_copyFrom 75 = .ok (.getfield 35, 3) := by decide +kernel
theorem dX9_copyFrom_78 : decode cX9_copyFrom 78 = .ok (.iconst 0, 1) := by decide +kernel
theorem dX9_copyFrom_79 : decode cX9_copyFrom 79 = .ok (.iconst 5, 1) := by decide +kernel
theorem dX9_copyFrom_80 : decode cX9_copyFrom 80 = .ok (.invokestatic 64, 3) := by decide +kernel
theorem dX9_copyFrom_83 : decode cX9_copyFrom 83 = .ok (.aload_n 1, 1) := by decide +kernel
theorem dX9_copyFrom_84 : decode cX9_copyFrom 84 = .ok (.getfield 38, 3) := by decide +kernel
theorem dX9_copyFrom_87 : decode cX9_copyFrom 87 = .ok (.iconst 0, 1) := by decide +kernel
theorem dX9_copyFrom_88 : decode cX9_copyFrom 88 = .ok (.aload_n 0, 1) := by decide +kernel
theorem dX9_copyFrom_89 : decode cX9_copyFrom 89 = .ok (.getfield 38, 3) := by decide +kernel
theorem dX9_copyFrom_92 : decode cX9_copyFrom 92 = .ok (.iconst 0, 1) := by decide +kernel
theorem dX9_copyFrom_93 : decode cX9_copyFrom 93 = .ok (.bipush 30, 2) := by decide +kernel
theorem dX9_copyFrom_95 : decode cX9_copyFrom 95 = .ok (.invokestatic 64, 3) := by decide +kernel
theorem dX9_copyFrom_98 : decode cX9_copyFrom 98 = .ok (.aload_n 1, 1) := by decide +kernel
theorem dX9_copyFrom_99 : decode cX9_copyFrom 99 = .ok (.getfield 41, 3) := by decide +kernel
theorem dX9_copyFrom_102 : decode cX9_copyFrom 102 = .ok (.iconst 0, 1) := by decide +kernel
theorem dX9_copyFrom_103 : decode cX9_copyFrom 103 = .ok (.aload_n 0, 1) := by decide +kernel
theorem dX9_copyFrom_104 : decode cX9_copyFrom 104 = .ok (.getfield 41, 3) := by decide +kernel
theorem dX9_copyFrom_107 : decode cX9_copyFrom 107 = .ok (.iconst 0, 1) := by decide +kernel
theorem dX9_copyFrom_108 : decode cX9_copyFrom 108 = .ok (.bipush 30, 2) := by decide +kernel
theorem dX9_copyFrom_110 : decode cX9_copyFrom 110 = .ok (.invokestatic 64, 3) := by decide +kernel
theorem dX9_copyFrom_113 : decode cX9_copyFrom 113 = .ok (.aload_n 1, 1) := by decide +kernel
theorem dX9_copyFrom_114 : decode cX9_copyFrom 114 = .ok (.getfield 44, 3) := by decide +kernel
theorem dX9_copyFrom_117 : decode cX9_copyFrom 117 = .ok (.iconst 0, 1) := by decide +kernel
theorem dX9_copyFrom_118 : decode cX9_copyFrom 118 = .ok (.aload_n 0, 1) := by decide +kernel
theorem dX9_copyFrom_119 : decode cX9_copyFrom 119 = .ok (.getfield 44, 3) := by decide +kernel
theorem dX9_copyFrom_122 : decode cX9_copyFrom 122 = .ok (.iconst 0, 1) := by decide +kernel
theorem dX9_copyFrom_123 : decode cX9_copyFrom 123 = .ok (.bipush 30, 2) := by decide +kernel
theorem dX9_copyFrom_125 : decode cX9_copyFrom 125 = .ok (.invokestatic 64, 3) := by decide +kernel
theorem dX9_copyFrom_128 : decode cX9_copyFrom 128 = .ok (.aload_n 1, 1) := by decide +kernel
theorem dX9_copyFrom_129 : decode cX9_copyFrom 129 = .ok (.getfield 47, 3) := by decide +kernel
theorem dX9_copyFrom_132 : decode cX9_copyFrom 132 = .ok (.iconst 0, 1) := by decide +kernel
theorem dX9_copyFrom_133 : decode cX9_copyFrom 133 = .ok (.aload_n 0, 1) := by decide +kernel
theorem dX9_copyFrom_134 : decode cX9_copyFrom 134 = .ok (.getfield 47, 3) := by decide +kernel
theorem dX9_copyFrom_137 : decode cX9_copyFrom 137 = .ok (.iconst 0, 1) := by decide +kernel
theorem dX9_copyFrom_138 : decode cX9_copyFrom 138 = .ok (.bipush 30, 2) := by decide +kernel
theorem dX9_copyFrom_140 : decode cX9_copyFrom 140 = .ok (.invokestatic 64, 3) := by decide +kernel
theorem dX9_copyFrom_143 : decode cX9_copyFrom 143 = .ok (.aload_n 1, 1) := by decide +kernel
theorem dX9_copyFrom_144 : decode cX9_copyFrom 144 = .ok (.getfield 50, 3) := by decide +kernel
theorem dX9_copyFrom_147 : decode cX9_copyFrom 147 = .ok (.iconst 0, 1) := by decide +kernel
theorem dX9_copyFrom_148 : decode cX9_copyFrom 148 = .ok (.aload_n 0, 1) := by decide +kernel
theorem dX9_copyFrom_149 : decode cX9_copyFrom 149 = .ok (.getfield 50, 3) := by decide +kernel
theorem dX9_copyFrom_152 : decode cX9_copyFrom 152 = .ok (.iconst 0, 1) := by decide +kernel
theorem dX9_copyFrom_153 : decode cX9_copyFrom 153 = .ok (.bipush 30, 2) := by decide +kernel
theorem dX9_copyFrom_155 : decode cX9_copyFrom 155 = .ok (.invokestatic 64, 3) := by decide +kernel
theorem dX9_copyFrom_158 : decode cX9_copyFrom 158 = .ok (.return_, 1) := by decide +kernel
theorem dX9_isDouble_0 : decode cX9_isDouble 0 = .ok (.aload_n 0, 1) := by decide +kernel
theorem dX9_isDouble_1 : decode cX9_isDouble 1 = .ok (.getfield 25, 3) := by decide +kernel
theorem dX9_isDouble_4 : decode cX9_isDouble 4 = .ok (.iload_n 1, 1) := by decide +kernel
theorem dX9_isDouble_5 : decode cX9_isDouble 5 = .ok (.iaload, 1) := by decide +kernel
theorem dX9_isDouble_6 : decode cX9_isDouble 6 = .ok (.istore_n 2, 1) := by decide +kernel
theorem dX9_isDouble_7 : decode cX9_isDouble 7 = .ok (.iload_n 2, 1) := by decide +kernel
theorem dX9_isDouble_8 : decode cX9_isDouble 8 = .ok (.aload_n 0, 1) := by decide +kernel
theorem dX9_isDouble_9 : decode cX9_isDouble 9 = .ok (.getfield 80, 3) := by decide +kernel
theorem dX9_isDouble_12 : decode cX9_isDouble 12 = .ok (.iand, 1) := by decide +kernel
theorem dX9_isDouble_13 : decode cX9_isDouble 13 = .ok (.invokestatic 110, 3) := by decide +kernel
theorem dX9_isDouble_16 : decode cX9_isDouble 16 = .ok (.iconst 1, 1) := by decide +kernel
theorem dX9_isDouble_17 : decode cX9_isDouble 17 = .ok (.if_icmp .gt 18, 3) := by decide +kernel
theorem dX9_isDouble_20 : decode cX9_isDouble 20 = .ok (.iload_n 2, 1) := by decide +kernel
theorem dX9_isDouble_21 : decode cX9_isDouble 21 = .ok (.aload_n 0, 1) := by decide +kernel
theorem dX9_isDouble_22 : decode cX9_isDouble 22 = .ok (.getfield 80, 3) := by decide +kernel
theorem dX9_isDouble_25 : decode cX9_isDouble 25 = .ok (.iconst (-1), 1) := by decide +kernel
theorem dX9_isDouble_26 : decode cX9_isDouble 26 = .ok (.ixor, 1) := by decide +kernel
theorem dX9_isDouble_27 : decode cX9_isDouble 27 = .ok (.iand, 1) := by decide +kernel
theorem dX9_isDouble_28 : decode cX9_isDouble 28 = .ok (.invokestatic 110, 3) := by decide +kernel
theorem dX9_isDouble_31 : decode cX9_isDouble 31 = .ok (.iconst 1, 1) := by decide +kernel
theorem dX9_isDouble_32 : decode cX9_isDouble 32 = .ok (.if_icmp .le 7, 3) := by decide +kernel
theorem dX9_isDouble_35 : decode cX9_isDouble 35 = .ok (.iconst 1, 1) := by decide +kernel
theorem dX9_isDouble_36 : decode cX9_isDouble 36 = .ok (.goto 4, 3) := by decide +kernel
theorem dX9_isDouble_39 : decode cX9_isDouble 39 = .ok (.iconst 0, 1) := by decide +kernel
theorem dX9_isDouble_40 : decode cX9_isDouble 40 = .ok (.ireturn, 1) := by decide +kernel
theorem dX9_isHeld_0 : decode cX9_isHeld 0 = .ok (.aload_n 0, 1) := by decide +kernel
theorem dX9_isHeld_1 : decode cX9_isHeld 1 = .ok (.getfield 25, 3) := by decide +kernel
theorem dX9_isHeld_4 : decode cX9_isHeld 4 = .ok (.iload_n 1, 1) := by decide +kernel
theorem dX9_isHeld_5 : decode cX9_isHeld 5 = .ok (.iaload, 1) := by decide +kernel
theorem dX9_isHeld_6 : decode cX9_isHeld 6 = .ok (.iload_n 2, 1) := by decide +kernel
theorem dX9_isHeld_7 : decode cX9_isHeld 7 = .ok (.ishr, 1) := by decide +kernel
theorem dX9_isHeld_8 : decode cX9_isHeld 8 = .ok (.iconst 1, 1) := by decide +kernel
theorem dX9_isHeld_9 : decode cX9_isHeld 9 = .ok (.iand, 1) := by decide +kernel
theorem dX9_isHeld_10 : decode cX9_isHeld 10 = .ok (.iconst 1, 1) := by decide +kernel
theorem dX9_isHeld_11 : decode cX9_isHeld 11 = .ok (.if_icmp .ne 7, 3) := by decide +kernel
theorem dX9_isHeld_14 : decode cX9_isHeld 14 = .ok (.iconst 1, 1) := by decide +kernel
theorem dX9_isHeld_15 : decode cX9_isHeld 15 = .ok (.goto 4, 3) := by decide +kernel
theorem dX9_isHeld_18 : decode cX9_isHeld 18 = .ok (.iconst 0, 1) := by decide +kernel
theorem dX9_isHeld_19 : decode cX9_isHeld 19 = .ok (.ireturn, 1) := by decide +kernel
theorem dX9_beside_0 : decode cX9_beside 0 = .ok (.aload_n 0, 1) := by decide +kernel
theorem dX9_beside_1 : decode cX9_beside 1 = .ok (.getfield 80, 3) := by decide +kernel
theorem dX9_beside_4 : decode cX9_beside 4 = .ok (.iload_n 1, 1) := by decide +kernel
theorem dX9_beside_5 : decode cX9_beside 5 = .ok (.ishr, 1) := by decide +kernel
theorem dX9_beside_6 : decode cX9_beside 6 = .ok (.iconst 1, 1) := by decide +kernel
theorem dX9_beside_7 : decode cX9_beside 7 = .ok (.iand, 1) := by decide +kernel
theorem dX9_beside_8 : decode cX9_beside 8 = .ok (.iconst 1, 1) := by decide +kernel
theorem dX9_beside_9 : decode cX9_beside 9 = .ok (.if_icmp .ne 10, 3) := by decide +kernel
theorem dX9_beside_12 : decode cX9_beside 12 = .ok (.aload_n 0, 1) := by decide +kernel
theorem dX9_beside_13 : decode cX9_beside 13 = .ok (.getfield 80, 3) := by decide +kernel
theorem dX9_beside_16 : decode cX9_beside 16 = .ok (.goto 9, 3) := by decide +kernel
theorem dX9_beside_19 : decode cX9_beside 19 = .ok (.aload_n 0, 1) := by decide +kernel
theorem dX9_beside_20 : decode cX9_beside 20 = .ok (.getfield 80, 3) := by decide +kernel
theorem dX9_beside_23 : decode cX9_beside 23 = .ok (.iconst (-1), 1) := by decide +kernel
theorem dX9_beside_24 : decode cX9_beside 24 = .ok (.ixor, 1) := by decide +kernel
theorem dX9_beside_25 : decode cX9_beside 25 = .ok (.ireturn, 1) := by decide +kernel
theorem dX9_strongest_0 : decode cX9_strongest 0 = .ok (.iconst (-1), 1) := by decide +kernel
theorem dX9_strongest_1 : decode cX9_strongest 1 = .ok (.istore_n 3, 1) := by decide +kernel
theorem dX9_strongest_2 : decode cX9_strongest 2 = .ok (.iconst 0, 1) := by decide +kernel
theorem dX9_strongest_3 : decode cX9_strongest 3 = .ok (.istore 4, 2) := by decide +kernel
theorem dX9_strongest_5 : decode cX9_strongest 5 = .ok (.iload 4, 2) := by decide +kernel
theorem dX9_strongest_7 : decode cX9_strongest 7 = .ok (.bipush 6, 2) := by decide +kernel
theorem dX9_strongest_9 : decode cX9_strongest 9 = .ok (.if_icmp .ge 65, 3) := by decide +kernel
theorem dX9_strongest_12 : decode cX9_strongest 12 = .ok (.iload_n 2, 1) := by decide +kernel
theorem dX9_strongest_13 : decode cX9_strongest 13 = .ok (.iload 4, 2) := by decide +kernel
theorem dX9_strongest_15 : decode cX9_strongest 15 = .ok (.ishr, 1) := by decide +kernel
theorem dX9_strongest_16 : decode cX9_strongest 16 = .ok (.iconst 1, 1) := by decide +kernel
theorem dX9_strongest_17 : decode cX9_strongest 17 = .ok (.iand, 1) := by decide +kernel
theorem dX9_strongest_18 : decode cX9_strongest 18 = .ok (.iconst 1, 1) := by decide +kernel
theorem dX9_strongest_19 : decode cX9_strongest 19 = .ok (.if_icmp .ne 7, 3) := by decide +kernel
theorem dX9_strongest_22 : decode cX9_strongest 22 = .ok (.iconst 1, 1) := by decide +kernel
theorem dX9_strongest_23 : decode cX9_strongest 23 = .ok (.goto 4, 3) := by decide +kernel
theorem dX9_strongest_26 : decode cX9_strongest 26 = .ok (.iconst 0, 1) := by decide +kernel
theorem dX9_strongest_27 : decode cX9_strongest 27 = .ok (.istore 5, 2) := by decide +kernel
theorem dX9_strongest_29 : decode cX9_strongest 29 = .ok (.iload 5, 2) := by decide +kernel
theorem dX9_strongest_31 : decode cX9_strongest 31 = .ok (.ifCond .eq 37, 3) := by decide +kernel
theorem dX9_strongest_34 : decode cX9_strongest 34 = .ok (.iload_n 3, 1) := by decide +kernel
theorem dX9_strongest_35 : decode cX9_strongest 35 = .ok (.iconst (-1), 1) := by decide +kernel
theorem dX9_strongest_36 : decode cX9_strongest 36 = .ok (.if_icmp .eq 29, 3) := by decide +kernel
theorem dX9_strongest_39 : decode cX9_strongest 39 = .ok (.aload_n 0, 1) := by decide +kernel
theorem dX9_strongest_40 : decode cX9_strongest 40 = .ok (.getfield 41, 3) := by decide +kernel
theorem dX9_strongest_43 : decode cX9_strongest 43 = .ok (.iload_n 1, 1) := by decide +kernel
theorem dX9_strongest_44 : decode cX9_strongest 44 = .ok (.bipush 6, 2) := by decide +kernel
theorem dX9_strongest_46 : decode cX9_strongest 46 = .ok (.imul, 1) := by decide +kernel
theorem dX9_strongest_47 : decode cX9_strongest 47 = .ok (.iload 4, 2) := by decide +kernel
theorem dX9_strongest_49 : decode cX9_strongest 49 = .ok (.iadd, 1) := by decide +kernel
theorem dX9_strongest_50 : decode cX9_strongest 50 = .ok (.iaload, 1) := by decide +kernel
theorem dX9_strongest_51 : decode cX9_strongest 51 = .ok (.aload_n 0, 1) := by decide +kernel
theorem dX9_strongest_52 : decode cX9_strongest 52 = .ok (.getfield 41, 3) := by decide +kernel
theorem dX9_strongest_55 : decode cX9_strongest 55 = .ok (.iload_n 1, 1) := by decide +kernel
theorem dX9_strongest_56 : decode cX9_strongest 56 = .ok (.bipush 6, 2) := by decide +kernel
theorem dX9_strongest_58 : decode cX9_strongest 58 = .ok (.imul, 1) := by decide +kernel
theorem dX9_strongest_59 : decode cX9_strongest 59 = .ok (.iload_n 3, 1) := by decide +kernel
theorem dX9_strongest_60 : decode cX9_strongest 60 = .ok (.iadd, 1) := by decide +kernel
theorem dX9_strongest_61 : decode cX9_strongest 61 = .ok (.iaload, 1) := by decide +kernel
theorem dX9_strongest_62 : decode cX9_strongest 62 = .ok (.if_icmp .lt 6, 3) := by decide +kernel
theorem dX9_strongest_65 : decode cX9_strongest 65 = .ok (.iload 4, 2) := by decide +kernel
theorem dX9_strongest_67 : decode cX9_strongest 67 = .ok (.istore_n 3, 1) := by decide +kernel
theorem dX9_strongest_68 : decode cX9_strongest 68 = .ok (.iinc 4 1, 3) := by decide +kernel
theorem dX9_strongest_71 : decode cX9_strongest 71 = .ok (.goto (-66), 3) := by decide +kernel
theorem dX9_strongest_74 : decode cX9_strongest 74 = .ok (.iload_n 3, 1) := by decide +kernel
theorem dX9_strongest_75 : decode cX9_strongest 75 = .ok (.ireturn, 1) := by decide +kernel
theorem dX9_holderBeside_0 : decode cX9_holderBeside 0 = .ok (.aload_n 0, 1) := by decide +kernel
theorem dX9_holderBeside_1 : decode cX9_holderBeside 1 = .ok (.iload_n 1, 1) := by decide +kernel
theorem dX9_holderBeside_2 : decode cX9_holderBeside 2 = .ok (.aload_n 0, 1) := by decide +kernel
theorem dX9_holderBeside_3 : decode cX9_holderBeside 3 = .ok (.getfield 25, 3) := by decide +kernel
theorem dX9_holderBeside_6 : decode cX9_holderBeside 6 = .ok (.iload_n 1, 1) := by decide +kernel
theorem dX9_holderBeside_7 : decode cX9_holderBeside 7 = .ok (.iaload, 1) := by decide +kernel
theorem dX9_holderBeside_8 : decode cX9_holderBeside 8 = .ok (.aload_n 0, 1) := by decide +kernel
theorem dX9_holderBeside_9 : decode cX9_holderBeside 9 = .ok (.iload_n 2, 1) := by decide +kernel
theorem dX9_holderBeside_10 : decode cX9_holderBeside 10 = .ok (.invokevirtual 116, 3) := by decide +kernel
theorem dX9_holderBeside_13 : decode cX9_holderBeside 13 = .ok (.iand, 1) := by decide +kernel
theorem dX9_holderBeside_14 : decode cX9_holderBeside 14 = .ok (.invokevirtual 119, 3) := by decide +kernel
theorem dX9_holderBeside_17 : decode cX9_holderBeside 17 = .ok (.ireturn, 1) := by decide +kernel
theorem dX9_clear_0 : decode cX9_clear 0 = .ok (.aload_n 0, 1) := by decide +kernel
theorem dX9_clear_1 : decode cX9_clear 1 = .ok (.iconst 0, 1) := by decide +kernel
theorem dX9_clear_2 : decode cX9_clear 2 = .ok (.putfield 70, 3) := by decide +kernel
theorem dX9_clear_5 : decode cX9_clear 5 = .ok (.aload_n 0, 1) := by decide +kernel
theorem dX9_clear_6 : decode cX9_clear 6 = .ok (.iconst 0, 1) := by decide +kernel
theorem dX9_clear_7 : decode cX9_clear 7 = .ok (.putfield 74, 3) := by decide +kernel
theorem dX9_clear_10 : decode cX9_clear 10 = .ok (.aload_n 0, 1) := by decide +kernel
theorem dX9_clear_11 : decode cX9_clear 11 = .ok (.iconst 0, 1) := by decide +kernel
theorem dX9_clear_12 : decode cX9_clear 12 = .ok (.putfield 77, 3) := by decide +kernel
theorem dX9_clear_15 : decode cX9_clear 15 = .ok (.aload_n 0, 1) := by decide +kernel
theorem dX9_clear_16 : decode cX9_clear 16 = .ok (.iconst 0, 1) := by decide +kernel
theorem dX9_clear_17 : decode cX9_clear 17 = .ok (.putfield 80, 3) := by decide +kernel
theorem dX9_clear_20 : decode cX9_clear 20 = .ok (.aload_n 0, 1) := by decide +kernel
theorem dX9_clear_21 : decode cX9_clear 21 = .ok (.iconst 0, 1) := by decide +kernel
theorem dX9_clear_22 : decode cX9_clear 22 = .ok (.putfield 83, 3) := by decide +kernel
theorem dX9_clear_25 : decode cX9_clear 25 = .ok (.aload_n 0, 1) := by decide +kernel
theorem dX9_clear_26 : decode cX9_clear 26 = .ok (.iconst 1, 1) := by decide +kernel
theorem dX9_clear_27 : decode cX9_clear 27 = .ok (.putfield 86, 3) := by decide +kernel
theorem dX9_clear_30 : decode cX9_clear 30 = .ok (.aload_n 0, 1) := by decide +kernel
theorem dX9_clear_31 : decode cX9_clear 31 = .ok (.iconst 0, 1) := by decide +kernel
theorem dX9_clear_32 : decode cX9_clear 32 = .ok (.putfield 89, 3) := by decide +kernel
theorem dX9_clear_35 : decode cX9_clear 35 = .ok (.aload_n 0, 1) := by decide +kernel
theorem dX9_clear_36 : decode cX9_clear 36 = .ok (.iconst 0, 1) := by decide +kernel
theorem dX9_clear_37 : decode cX9_clear 37 = .ok (.putfield 92, 3) := by decide +kernel
theorem dX9_clear_40 : decode cX9_clear 40 = .ok (.aload_n 0, 1) := by decide +kernel
theorem dX9_clear_41 : decode cX9_clear 41 = .ok (.iconst 0, 1) := by decide +kernel
theorem dX9_clear_42 : decode cX9_clear 42 = .ok (.putfield 95, 3) := by decide +kernel
theorem dX9_clear_45 : decode cX9_clear 45 = .ok (.aload_n 0, 1) := by decide +kernel
theorem dX9_clear_46 : decode cX9_clear 46 = .ok (.getfield 12, 3) := by decide +kernel
theorem dX9_clear_49 : decode cX9_clear 49 = .ok (.iconst 0, 1) := by decide +kernel
theorem dX9_clear_50 : decode cX9_clear 50 = .ok (.putfield 98, 3) := by decide +kernel
theorem dX9_clear_53 : decode cX9_clear 53 = .ok (.aload_n 0, 1) := by decide +kernel
theorem dX9_clear_54 : decode cX9_clear 54 = .ok (.getfield 21, 3) := by decide +kernel
theorem dX9_clear_57 : decode cX9_clear 57 = .ok (.iconst 0, 1) := by decide +kernel
theorem dX9_clear_58 : decode cX9_clear 58 = .ok (.putfield 101, 3) := by decide +kernel
theorem dX9_clear_61 : decode cX9_clear 61 = .ok (.iconst 0, 1) := by decide +kernel
theorem dX9_clear_62 : decode cX9_clear 62 = .ok (.istore_n 2, 1) := by decide +kernel
theorem dX9_clear_63 : decode cX9_clear 63 = .ok (.iload_n 2, 1) := by decide +kernel
theorem dX9_clear_64 : decode cX9_clear 64 = .ok (.iconst 5, 1) := by decide +kernel
theorem dX9_clear_65 : decode cX9_clear 65 = .ok (.if_icmp .ge 37, 3) := by decide +kernel
theorem dX9_clear_68 : decode cX9_clear 68 = .ok (.aload_n 0, 1) := by decide +kernel
theorem dX9_clear_69 : decode cX9_clear 69 = .ok (.getfield 25, 3) := by decide +kernel
theorem dX9_clear_72 : decode cX9_clear 72 = .ok (.iload_n 2, 1) := by decide +kernel
theorem dX9_clear_73 : decode cX9_clear 73 = .ok (.iconst 0, 1) := by decide +kernel
theorem dX9_clear_74 : decode cX9_clear 74 = .ok (.iastore, 1) := by decide +kernel
theorem dX9_clear_75 : decode cX9_clear 75 = .ok (.aload_n 0, 1) := by decide +kernel
theorem dX9_clear_76 : decode cX9_clear 76 = .ok (.getfield 29, 3) := by decide +kernel
theorem dX9_clear_79 : decode cX9_clear 79 = .ok (.iload_n 2, 1) := by decide +kernel
theorem dX9_clear_80 : decode cX9_clear 80 = .ok (.iconst 0, 1) := by decide +kernel
theorem dX9_clear_81 : decode cX9_clear 81 = .ok (.iastore, 1) := by decide +kernel
theorem dX9_clear_82 : decode cX9_clear 82 = .ok (.aload_n 0, 1) := by decide +kernel
theorem dX9_clear_83 : decode cX9_clear 83 = .ok (.getfield 32, 3) := by decide +kernel
theorem dX9_clear_86 : decode cX9_clear 86 = .ok (.iload_n 2, 1) := by decide +kernel
theorem dX9_clear_87 : decode cX9_clear 87 = .ok (.iconst 0, 1) := by decide +kernel
theorem dX9_clear_88 : decode cX9_clear 88 = .ok (.iastore, 1) := by decide +kernel
theorem dX9_clear_89 : decode cX9_clear 89 = .ok (.aload_n 0, 1) := by decide +kernel
theorem dX9_clear_90 : decode cX9_clear 90 = .ok (.getfield 35, 3) := by decide +kernel
theorem dX9_clear_93 : decode cX9_clear 93 = .ok (.iload_n 2, 1) := by decide +kernel
theorem dX9_clear_94 : decode cX9_clear 94 = .ok (.iconst 0, 1) := by decide +kernel
theorem dX9_clear_95 : decode cX9_clear 95 = .ok (.iastore, 1) := by decide +kernel
theorem dX9_clear_96 : decode cX9_clear 96 = .ok (.iinc 2 1, 3) := by decide +kernel
theorem dX9_clear_99 : decode cX9_clear 99 = .ok (.goto (-36), 3) := by decide +kernel
theorem dX9_clear_102 : decode cX9_clear 102 = .ok (.iconst 0, 1) := by decide +kernel
theorem dX9_clear_103 : decode cX9_clear 103 = .ok (.istore_n 2, 1) := by decide +kernel
theorem dX9_clear_104 : decode cX9_clear 104 = .ok (.iload_n 2, 1) := by decide +kernel
theorem dX9_clear_105 : decode cX9_clear 105 = .ok (.bipush 30, 2) := by decide +kernel
theorem dX9_clear_107 : decode cX9_clear 107 = .ok (.if_icmp .ge 38, 3) := by decide +kernel
theorem dX9_clear_110 : decode cX9_clear 110 = .ok (.iload_n 2, 1) := by decide +kernel
theorem dX9_clear_111 : decode cX9_clear 111 = .ok (.aload_n 1, 1) := by decide +kernel
theorem dX9_clear_112 : decode cX9_clear 112 = .ok (.arraylength, 1) := by decide +kernel
theorem dX9_clear_113 : decode cX9_clear 113 = .ok (.if_icmp .ge 32, 3) := by decide +kernel
theorem dX9_clear_116 : decode cX9_clear 116 = .ok (.aload_n 0, 1) := by decide +kernel
theorem dX9_clear_117 : decode cX9_clear 117 = .ok (.getfield 38, 3) := by decide +kernel
theorem dX9_clear_120 : decode cX9_clear 120 = .ok (.iload_n 2, 1) := by decide +kernel
theorem dX9_clear_121 : decode cX9_clear 121 = .ok (.aload_n 1, 1) := by decide +kernel
theorem dX9_clear_122 : decode cX9_clear 122 = .ok (.iload_n 2, 1) := by decide +kernel
theorem dX9_clear_123 : decode cX9_clear 123 = .ok (.iaload, 1) := by decide +kernel
theorem dX9_clear_124 : decode cX9_clear 124 = .ok (.iastore, 1) := by decide +kernel
theorem dX9_clear_125 : decode cX9_clear 125 = .ok (.aload_n 0, 1) := by decide +kernel
theorem dX9_clear_126 : decode cX9_clear 126 = .ok (.getfield 47, 3) := by decide +kernel
theorem dX9_clear_129 : decode cX9_clear 129 = .ok (.iload_n 2, 1) := by decide +kernel
theorem dX9_clear_130 : decode cX9_clear 130 = .ok (.iconst 0, 1) := by decide +kernel
theorem dX9_clear_131 : decode cX9_clear 131 = .ok (.iastore, 1) := by decide +kernel
theorem dX9_clear_132 : decode cX9_clear 132 = .ok (.aload_n 0, 1) := by decide +kernel
theorem dX9_clear_133 : decode cX9_clear 133 = .ok (.getfield 50, 3) := by decide +kernel
theorem dX9_clear_136 : decode cX9_clear 136 = .ok (.iload_n 2, 1) := by decide +kernel
theorem dX9_clear_137 : decode cX9_clear 137 = .ok (.iconst (-1), 1) := by decide +kernel
theorem dX9_clear_138 : decode cX9_clear 138 = .ok (.iastore, 1) := by decide +kernel
theorem dX9_clear_139 : decode cX9_clear 139 = .ok (.iinc 2 1, 3) := by decide +kernel
theorem dX9_clear_142 : decode cX9_clear 142 = .ok (.goto (-38), 3) := by decide +kernel
theorem dX9_clear_145 : decode cX9_clear 145 = .ok (.return_, 1) := by decide +kernel
theorem dX9_isUp_0 : decode cX9_isUp 0 = .ok (.aload_n 0, 1) := by decide +kernel
theorem dX9_isUp_1 : decode cX9_isUp 1 = .ok (.getfield 74, 3) := by decide +kernel
theorem dX9_isUp_4 : decode cX9_isUp 4 = .ok (.iload_n 1, 1) := by decide +kernel
theorem dX9_isUp_5 : decode cX9_isUp 5 = .ok (.ishr, 1) := by decide +kernel
theorem dX9_isUp_6 : decode cX9_isUp 6 = .ok (.iconst 1, 1) := by decide +kernel
theorem dX9_isUp_7 : decode cX9_isUp 7 = .ok (.iand, 1) := by decide +kernel
theorem dX9_isUp_8 : decode cX9_isUp 8 = .ok (.iconst 1, 1) := by decide +kernel
theorem dX9_isUp_9 : decode cX9_isUp 9 = .ok (.if_icmp .ne 7, 3) := by decide +kernel
theorem dX9_isUp_12 : decode cX9_isUp 12 = .ok (.iconst 1, 1) := by decide +kernel
theorem dX9_isUp_13 : decode cX9_isUp 13 = .ok (.goto 4, 3) := by decide +kernel
theorem dX9_isUp_16 : decode cX9_isUp 16 = .ok (.iconst 0, 1) := by decide +kernel
theorem dX9_isUp_17 : decode cX9_isUp 17 = .ok (.ireturn, 1) := by decide +kernel
theorem dX9_isCut_0 : decode cX9_isCut 0 = .ok (.aload_n 0, 1) := by decide +kernel
theorem dX9_isCut_1 : decode cX9_isCut 1 = .ok (.getfield 77, 3) := by decide +kernel
theorem dX9_isCut_4 : decode cX9_isCut 4 = .ok (.iload_n 1, 1) := by decide +kernel
theorem dX9_isCut_5 : decode cX9_isCut 5 = .ok (.ishr, 1) := by decide +kernel
theorem dX9_isCut_6 : decode cX9_isCut 6 = .ok (.iconst 1, 1) := by decide +kernel
theorem dX9_isCut_7 : decode cX9_isCut 7 = .ok (.iand, 1) := by decide +kernel
theorem dX9_isCut_8 : decode cX9_isCut 8 = .ok (.iconst 1, 1) := by decide +kernel
theorem dX9_isCut_9 : decode cX9_isCut 9 = .ok (.if_icmp .ne 7, 3) := by decide +kernel
theorem dX9_isCut_12 : decode cX9_isCut 12 = .ok (.iconst 1, 1) := by decide +kernel
theorem dX9_isCut_13 : decode cX9_isCut 13 = .ok (.goto 4, 3) := by decide +kernel
theorem dX9_isCut_16 : decode cX9_isCut 16 = .ok (.iconst 0, 1) := by decide +kernel
theorem dX9_isCut_17 : decode cX9_isCut 17 = .ok (.ireturn, 1) := by decide +kernel
theorem dX9_howIs_0 : decode cX9_howIs 0 = .ok (.aload_n 0, 1) := by decide +kernel
theorem dX9_howIs_1 : decode cX9_howIs 1 = .ok (.iload_n 2, 1) := by decide +kernel
theorem dX9_howIs_2 : decode cX9_howIs 2 = .ok (.invokevirtual 102, 3) := by decide +kernel
theorem dX9_howIs_5 : decode cX9_howIs 5 = .ok (.ifCond .ne 5, 3) := by decide +kernel
theorem dX9_howIs_8 : decode cX9_howIs 8 = .ok (.iconst 0, 1) := by decide +kernel
theorem dX9_howIs_9 : decode cX9_howIs 9 = .ok (.ireturn, 1) := by decide +kernel
theorem dX9_howIs_10 : decode cX9_howIs 10 = .ok (.aload_n 0, 1) := by decide +kernel
theorem dX9_howIs_11 : decode cX9_howIs 11 = .ok (.iload_n 1, 1) := by decide +kernel
theorem dX9_howIs_12 : decode cX9_howIs 12 = .ok (.iload_n 2, 1) := by decide +kernel
theorem dX9_howIs_13 : decode cX9_howIs 13 = .ok (.invokevirtual 106, 3) := by decide +kernel
theorem dX9_howIs_16 : decode cX9_howIs 16 = .ok (.ifCond .eq 7, 3) := by decide +kernel
theorem dX9_howIs_19 : decode cX9_howIs 19 = .ok (.iconst 2, 1) := by decide +kernel
theorem dX9_howIs_20 : decode cX9_howIs 20 = .ok (.goto 4, 3) := by decide +kernel
theorem dX9_howIs_23 : decode cX9_howIs 23 = .ok (.iconst 1, 1) := by decide +kernel
theorem dX9_howIs_24 : decode cX9_howIs 24 = .ok (.ireturn, 1) := by decide +kernel
