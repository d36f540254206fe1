theorem dX2_isFull_0 : decode cX2_isFull 0 = .ok (.iload_n 1, 1) := by decide +kernel
theorem dX2_isFull_1 : decode cX2_isFull 1 = .ok (.bipush 11, 2) := by decide +kernel
theorem dX2_isFull_3 : decode cX2_isFull 3 = .ok (.if_icmp .ne 21, 3) := by decide +kernel
theorem dX2_isFull_6 : decode cX2_isFull 6 = .ok (.aload_n 0, 1) := by decide +kernel
theorem dX2_isFull_7 : decode cX2_isFull 7 = .ok (.getfield 12, 3) := by decide +kernel
theorem dX2_isFull_10 : decode cX2_isFull 10 = .ok (.getfield 71, 3) := by decide +kernel
theorem dX2_isFull_13 : decode cX2_isFull 13 = .ok (.bipush 24, 2) := by decide +kernel
theorem dX2_isFull_15 : decode cX2_isFull 15 = .ok (.if_icmp .lt 7, 3) := by decide +kernel
theorem dX2_isFull_18 : decode cX2_isFull 18 = .ok (.iconst 1, 1) := by decide +kernel
theorem dX2_isFull_19 : decode cX2_isFull 19 = .ok (.goto 4, 3) := by decide +kernel
theorem dX2_isFull_22 : decode cX2_isFull 22 = .ok (.iconst 0, 1) := by decide +kernel
theorem dX2_isFull_23 : decode cX2_isFull 23 = .ok (.ireturn, 1) := by decide +kernel
theorem dX2_isFull_24 : decode cX2_isFull 24 = .ok (.iload_n 1, 1) := by decide +kernel
theorem dX2_isFull_25 : decode cX2_isFull 25 = .ok (.bipush 7, 2) := by decide +kernel
theorem dX2_isFull_27 : decode cX2_isFull 27 = .ok (.if_icmp .eq 23, 3) := by decide +kernel
theorem dX2_isFull_30 : decode cX2_isFull 30 = .ok (.aload_n 0, 1) := by decide +kernel
theorem dX2_isFull_31 : decode cX2_isFull 31 = .ok (.getfield 12, 3) := by decide +kernel
theorem dX2_isFull_34 : decode cX2_isFull 34 = .ok (.getfield 74, 3) := by decide +kernel
theorem dX2_isFull_37 : decode cX2_isFull 37 = .ok (.iload_n 1, 1) := by decide +kernel
theorem dX2_isFull_38 : decode cX2_isFull 38 = .ok (.iaload, 1) := by decide +kernel
theorem dX2_isFull_39 : decode cX2_isFull 39 = .ok (.iload_n 1, 1) := by decide +kernel
theorem dX2_isFull_40 : decode cX2_isFull 40 = .ok (.invokestatic 78, 3) := by decide +kernel
theorem dX2_isFull_43 : decode cX2_isFull 43 = .ok (.if_icmp .lt 7, 3) := by decide +kernel
theorem dX2_isFull_46 : decode cX2_isFull 46 = .ok (.iconst 1, 1) := by decide +kernel
theorem dX2_isFull_47 : decode cX2_isFull 47 = .ok (.goto 4, 3) := by decide +kernel
theorem dX2_isFull_50 : decode cX2_isFull 50 = .ok (.iconst 0, 1) := by decide +kernel
theorem dX2_isFull_51 : decode cX2_isFull 51 = .ok (.ireturn, 1) := by decide +kernel
theorem dX2_readName_0 : decode cX2_readName 0 = .ok (.aload_n 0, 1) := by decide +kernel
theorem dX2_readName_1 : decode cX2_readName 1 = .ok (.getfield 18, 3) := by decide +kernel
theorem dX2_readName_4 : decode cX2_readName 4 = .ok (.invokevirtual 82, 3) := by decide +kernel
theorem dX2_readName_7 : decode cX2_readName 7 = .ok (.ifCond .ne 19, 3) := by decide +kernel
theorem dX2_readName_10 : decode cX2_readName 10 = .ok (.aload_n 0, 1) := by decide +kernel
theorem dX2_readName_11 : decode cX2_readName 11 = .ok (.getfield 18, 3) := by decide +kernel
theorem dX2_readName_14 : decode cX2_readName 14 = .ok (.iconst 1, 1) := by decide +kernel
theorem dX2_readName_15 : decode cX2_readName 15 = .ok (.aload_n 0, 1) := by decide +kernel
theorem dX2_readName_16 : decode cX2_readName 16 = .ok (.getfield 18, 3) := by decide +kernel
theorem dX2_readName_19 : decode cX2_readName 19 = .ok (.getfield 38, 3) := by decide +kernel
theorem dX2_readName_22 : decode cX2_readName 22 = .ok (.invokevirtual 46, 3) := by decide +kernel
theorem dX2_readName_25 : decode cX2_readName 25 = .ok (.ireturn, 1) := by decide +kernel
theorem dX2_readName_26 : decode cX2_readName 26 = .ok (.aload_n 0, 1) := by decide +kernel
theorem dX2_readName_27 : decode cX2_readName 27 = .ok (.getfield 12, 3) := by decide +kernel
theorem dX2_readName_30 : decode cX2_readName 30 = .ok (.aload_n 0, 1) := by decide +kernel
theorem dX2_readName_31 : decode cX2_readName 31 = .ok (.getfield 18, 3) := by decide +kernel
theorem dX2_readName_34 : decode cX2_readName 34 = .ok (.getfield 85, 3) := by decide +kernel
theorem dX2_readName_37 : decode cX2_readName 37 = .ok (.invokevirtual 88, 3) := by decide +kernel
theorem dX2_readName_40 : decode cX2_readName 40 = .ok (.ifCond .eq 19, 3) := by decide +kernel
theorem dX2_readName_43 : decode cX2_readName 43 = .ok (.aload_n 0, 1) := by decide +kernel
theorem dX2_readName_44 : decode cX2_readName 44 = .ok (.getfield 18, 3) := by decide +kernel
theorem dX2_readName_47 : decode cX2_readName 47 = .ok (.iconst 2, 1) := by decide +kernel
theorem dX2_readName_48 : decode cX2_readName 48 = .ok (.aload_n 0, 1) := by decide +kernel
theorem dX2_readName_49 : decode cX2_readName 49 = .ok (.getfield 18, 3) := by decide +kernel
theorem dX2_readName_52 : decode cX2_readName 52 = .ok (.getfield 38, 3) := by decide +kernel
theorem dX2_readName_55 : decode cX2_readName 55 = .ok (.invokevirtual 46, 3) := by decide +kernel
theorem dX2_readName_58 : decode cX2_readName 58 = .ok (.ireturn, 1) := by decide +kernel
theorem dX2_readName_59 : decode cX2_readName 59 = .ok (.aload_n 0, 1) := by decide +kernel
theorem dX2_readName_60 : decode cX2_readName 60 = .ok (.getfield 12, 3) := by decide +kernel
theorem dX2_readName_63 : decode cX2_readName 63 = .ok (.getfield 74, 3) := by decide +kernel
theorem dX2_readName_66 : decode cX2_readName 66 = .ok (.iload_n 1, 1) := by decide +kernel
theorem dX2_readName_67 : decode cX2_readName 67 = .ok (.iaload, 1) := by decide +kernel
theorem dX2_readName_68 : decode cX2_readName 68 = .ok (.istore_n 2, 1) := by decide +kernel
theorem dX2_readName_69 : decode cX2_readName 69 = .ok (.aload_n 0, 1) := by decide +kernel
theorem dX2_readName_70 : decode cX2_readName 70 = .ok (.getfield 12, 3) := by decide +kernel
theorem dX2_readName_73 : decode cX2_readName 73 = .ok (.getfield 91, 3) := by decide +kernel
theorem dX2_readName_76 : decode cX2_readName 76 = .ok (.iload_n 1, 1) := by decide +kernel
theorem dX2_readName_77 : decode cX2_readName 77 = .ok (.bipush 8, 2) := by decide +kernel
theorem dX2_readName_79 : decode cX2_readName 79 = .ok (.imul, 1) := by decide +kernel
theorem dX2_readName_80 : decode cX2_readName 80 = .ok (.iload_n 2, 1) := by decide +kernel
theorem dX2_readName_81 : decode cX2_readName 81 = .ok (.iadd, 1) := by decide +kernel
theorem dX2_readName_82 : decode cX2_readName 82 = .ok (.aload_n 0, 1) := by decide +kernel
theorem dX2_readName_83 : decode cX2_readName 83 = .ok (.getfield 18, 3) := by decide +kernel
theorem dX2_readName_86 : decode cX2_readName 86 = .ok (.getfield 85, 3) := by decide +kernel
theorem dX2_readName_89 : decode cX2_readName 89 = .ok (.iastore, 1) := by decide +kernel
theorem dX2_readName_90 : decode cX2_readName 90 = .ok (.aload_n 0, 1) := by decide +kernel
theorem dX2_readName_91 : decode cX2_readName 91 = .ok (.getfield 12, 3) := by decide +kernel
theorem dX2_readName_94 : decode cX2_readName 94 = .ok (.getfield 74, 3) := by decide +kernel
theorem dX2_readName_97 : decode cX2_readName 97 = .ok (.iload_n 1, 1) := by decide +kernel
theorem dX2_readName_98 : decode cX2_readName 98 = .ok (.iload_n 2, 1) := by decide +kernel
theorem dX2_readName_99 : decode cX2_readName 99 = .ok (.iconst 1, 1) := by decide +kernel
theorem dX2_readName_100 : decode cX2_readName 100 = .ok (.iadd, 1) := by decide +kernel
theorem dX2_readName_101 : decode cX2_readName 101 = .ok (.iastore, 1) := by decide +kernel
theorem dX2_readName_102 : decode cX2_readName 102 = .ok (.aload_n 0, 1) := by decide +kernel
theorem dX2_readName_103 : decode cX2_readName 103 = .ok (.getfield 18, 3) := by decide +kernel
theorem dX2_readName_106 : decode cX2_readName 106 = .ok (.invokevirtual 53, 3) := by decide +kernel
theorem dX2_readName_109 : decode cX2_readName 109 = .ok (.iconst 1, 1) := by decide +kernel
theorem dX2_readName_110 : decode cX2_readName 110 = .ok (.ireturn, 1) := by decide +kernel
theorem dX2_readGroup_0 : decode cX2_readGroup 0 = .ok (.aload_n 0, 1) := by decide +kernel
theorem dX2_readGroup_1 : decode cX2_readGroup 1 = .ok (.getfield 12, 3) := by decide +kernel
theorem dX2_readGroup_4 : decode cX2_readGroup 4 = .ok (.getfield 74, 3) := by decide +kernel
theorem dX2_readGroup_7 : decode cX2_readGroup 7 = .ok (.iconst 2, 1) := by decide +kernel
theorem dX2_readGroup_8 : decode cX2_readGroup 8 = .ok (.iaload, 1) := by decide +kernel
theorem dX2_readGroup_9 : decode cX2_readGroup 9 = .ok (.istore_n 1, 1) := by decide +kernel
theorem dX2_readGroup_10 : decode cX2_readGroup 10 = .ok (.aload_n 0, 1) := by decide +kernel
theorem dX2_readGroup_11 : decode cX2_readGroup 11 = .ok (.iconst 2, 1) := by decide +kernel
theorem dX2_readGroup_12 : decode cX2_readGroup 12 = .ok (.invokevirtual 65, 3) := by decide +kernel
theorem dX2_readGroup_15 : decode cX2_readGroup 15 = .ok (.ifCond .eq 14, 3) := by decide +kernel
theorem dX2_readGroup_18 : decode cX2_readGroup 18 = .ok (.aload_n 0, 1) := by decide +kernel
theorem dX2_readGroup_19 : decode cX2_readGroup 19 = .ok (.getfield 18, 3) := by decide +kernel
theorem dX2_readGroup_22 : decode cX2_readGroup 22 = .ok (.iconst 3, 1) := by decide +kernel
theorem dX2_readGroup_23 : decode cX2_readGroup 23 = .ok (.invokevirtual 94, 3) := by decide +kernel
theorem dX2_readGroup_26 : decode cX2_readGroup 26 = .ok (.ifCond .ne 5, 3) := by decide +kernel
theorem dX2_readGroup_29 : decode cX2_readGroup 29 = .ok (.iconst 0, 1) := by decide +kernel
theorem dX2_readGroup_30 : decode cX2_readGroup 30 = .ok (.ireturn, 1) := by decide +kernel
theorem dX2_readGroup_31 : decode cX2_readGroup 31 = .ok (.aload_n 0, 1) := by decide +kernel
theorem dX2_readGroup_32 : decode cX2_readGroup 32 = .ok (.getfield 18, 3) := by decide +kernel
theorem dX2_readGroup_35 : decode cX2_readGroup 35 = .ok (.iconst 1, 1) := by decide +kernel
theorem dX2_readGroup_36 : decode cX2_readGroup 36 = .ok (.bipush 40, 2) := by decide +kernel
theorem dX2_readGroup_38 : decode cX2_readGroup 38 = .ok (.invokevirtual 97, 3) := by decide +kernel
theorem dX2_readGroup_41 : decode cX2_readGroup 41 = .ok (.istore_n 2, 1) := by decide +kernel
theorem dX2_readGroup_42 : decode cX2_readGroup 42 = .ok (.iconst 0, 1) := by decide +kernel
theorem dX2_readGroup_43 : decode cX2_readGroup 43 = .ok (.istore_n 3, 1) := by decide +kernel
theorem dX2_readGroup_44 : decode cX2_readGroup 44 = .ok (.iconst 0, 1) := by decide +kernel
theorem dX2_readGroup_45 : decode cX2_readGroup 45 = .ok (.istore 4, 2) := by decide +kernel
theorem dX2_readGroup_47 : decode cX2_readGroup 47 = .ok (.iload_n 2, 1) := by decide +kernel
theorem dX2_readGroup_48 : decode cX2_readGroup 48 = .ok (.iconst (-1), 1) := by decide +kernel
theorem dX2_readGroup_49 : decode cX2_readGroup 49 = .ok (.if_icmp .eq 28, 3) := by decide +kernel
theorem dX2_readGroup_52 : decode cX2_readGroup 52 = .ok (.aload_n 0, 1) := by decide +kernel
theorem dX2_readGroup_53 : decode cX2_readGroup 53 = .ok (.getfield 18, 3) := by decide +kernel
theorem dX2_readGroup_56 : decode cX2_readGroup 56 = .ok (.iconst 4, 1) := by decide +kernel
theorem dX2_readGroup_57 : decode cX2_readGroup 57 = .ok (.invokevirtual 101, 3) := by decide +kernel
theorem dX2_readGroup_60 : decode cX2_readGroup 60 = .ok (.ifCond .eq 17, 3) := by decide +kernel
theorem dX2_readGroup_63 : decode cX2_readGroup 63 = .ok (.aload_n 0, 1) := by decide +kernel
theorem dX2_readGroup_64 : decode cX2_readGroup 64 = .ok (.getfield 18, 3) := by decide +kernel
theorem dX2_readGroup_67 : decode cX2_readGroup 67 = .ok (.iconst 0, 1) := by decide +kernel
theorem dX2_readGroup_68 : decode cX2_readGroup 68 = .ok (.bipush 99, 2) := by decide +kernel
theorem dX2_readGroup_70 : decode cX2_readGroup 70 = .ok (.invokevirtual 97, 3) := by decide +kernel
theorem dX2_readGroup_73 : decode cX2_readGroup 73 = .ok (.istore_n 3, 1) := by decide +kernel
theorem dX2_readGroup_74 : decode cX2_readGroup 74 = .ok (.goto 22, 3) := by decide +kernel
theorem dX2_readGroup_77 : decode cX2_readGroup 77 = .ok (.iload_n 2, 1) := by decide +kernel
theorem dX2_readGroup_78 : decode cX2_readGroup 78 = .ok (.iconst (-1), 1) := by decide +kernel
theorem dX2_readGroup_79 : decode cX2_readGroup 79 = .ok (.if_icmp .eq 17, 3) := by decide +kernel
theorem dX2_readGroup_82 : decode cX2_readGroup 82 = .ok (.aload_n 0, 1) := by decide +kernel
theorem dX2_readGroup_83 : decode cX2_readGroup 83 = .ok (.getfield 18, 3) := by decide +kernel
theorem dX2_readGroup_86 : decode cX2_readGroup 86 = .ok (.iconst 5, 1) := by decide +kernel
theorem dX2_readGroup_87 : decode cX2_readGroup 87 = .ok (.invokevirtual 101, 3) := by decide +kernel
theorem dX2_readGroup_90 : decode cX2_readGroup 90 = .ok (.ifCond .eq 6, 3) := by decide +kernel
theorem dX2_readGroup_93 : decode cX2_readGroup 93 = .ok (.iconst 1, 1) := by decide +kernel
theorem dX2_readGroup_94 : decode cX2_readGroup 94 = .ok (.istore 4, 2) := by decide +kernel
theorem dX2_readGroup_96 : decode cX2_readGroup 96 = .ok (.iload_n 2, 1) := by decide +kernel
theorem dX2_readGroup_97 : decode cX2_readGroup 97 = .ok (.iconst (-1), 1) := by decide +kernel
theorem dX2_readGroup_98 : decode cX2_readGroup 98 = .ok (.if_icmp .eq 8, 3) := by decide +kernel
theorem dX2_readGroup_101 : decode cX2_readGroup 101 = .ok (.iload_n 3, 1) := by decide +kernel
theorem dX2_readGroup_102 : decode cX2_readGroup 102 = .ok (.iconst (-1), 1) := by decide +kernel
theorem dX2_readGroup_103 : decode cX2_readGroup 103 = .ok (.if_icmp .ne 5, 3) := by decide +kernel
theorem dX2_readGroup_106 : decode cX2_readGroup 106 = .ok (.iconst 0, 1) := by decide +kernel
theorem dX2_readGroup_107 : decode cX2_readGroup 107 = .ok (.ireturn, 1) := by decide +kernel
theorem dX2_readGroup_108 : decode cX2_readGroup 108 = .ok (.aload_n 0, 1) := by decide +kernel
theorem dX2_readGroup_109 : decode cX2_readGroup 109 = .ok (.getfield 18, 3) := by decide +kernel
theorem dX2_readGroup_112 : decode cX2_readGroup 112 = .ok (.bipush 6, 2) := by decide +kernel
theorem dX2_readGroup_114 : decode cX2_readGroup 114 = .ok (.invokevirtual 101, 3) := by decide +kernel
theorem dX2_readGroup_117 : decode cX2_readGroup 117 = .ok (.ifCond .eq 16, 3) := by decide +kernel
theorem dX2_readGroup_120 : decode cX2_readGroup 120 = .ok (.aload_n 0, 1) := by decide +kernel
theorem dX2_readGroup_121 : decode cX2_readGroup 121 = .ok (.getfield 18, 3) := by decide +kernel
theorem dX2_readGroup_124 : decode cX2_readGroup 124 = .ok (.iconst 1, 1) := by decide +kernel
theorem dX2_readGroup_125 : decode cX2_readGroup 125 = .ok (.bipush 8, 2) := by decide +kernel
theorem dX2_readGroup_127 : decode cX2_readGroup 127 = .ok (.invokevirtual 97, 3) := by decide +kernel
theorem dX2_readGroup_130 : decode cX2_readGroup 130 = .ok (.goto 4, 3) := by decide +kernel
theorem dX2_readGroup_133 : decode cX2_readGroup 133 = .ok (.iconst 1, 1) := by decide +kernel
theorem dX2_readGroup_134 : decode cX2_readGroup 134 = .ok (.istore 5, 2) := by decide +kernel
theorem dX2_readGroup_136 : decode cX2_readGroup 136 = .ok (.aload_n 0, 1) := by decide +kernel
theorem dX2_readGroup_137 : decode cX2_readGroup 137 = .ok (.getfield 12, 3) := by decide +kernel
theorem dX2_readGroup_140 : decode cX2_readGroup 140 = .ok (.getfield 104, 3) := by decide +kernel
theorem dX2_readGroup_143 : decode cX2_readGroup 143 = .ok (.iload_n 1, 1) := by decide +kernel
theorem dX2_readGroup_144 : decode cX2_readGroup 144 = .ok (.iload_n 2, 1) := by decide +kernel
theorem dX2_readGroup_145 : decode cX2_readGroup 145 = .ok (.iastore, 1) := by decide +kernel
theorem dX2_readGroup_146 : decode cX2_readGroup 146 = .ok (.aload_n 0, 1) := by decide +kernel
theorem dX2_readGroup_147 : decode cX2_readGroup 147 = .ok (.getfield 12, 3) := by decide +kernel
theorem dX2_readGroup_150 : decode cX2_readGroup 150 = .ok (.getfield 107, 3) := by decide +kernel
theorem dX2_readGroup_153 : decode cX2_readGroup 153 = .ok (.iload_n 1, 1) := by decide +kernel
theorem dX2_readGroup_154 : decode cX2_readGroup 154 = .ok (.iload_n 3, 1) := by decide +kernel
theorem dX2_readGroup_155 : decode cX2_readGroup 155 = .ok (.iastore, 1) := by decide +kernel
theorem dX2_readGroup_156 : decode cX2_readGroup 156 = .ok (.aload_n 0, 1) := by decide +kernel
theorem dX2_readGroup_157 : decode cX2_readGroup 157 = .ok (.getfield 12, 3) := by decide +kernel
theorem dX2_readGroup_160 : decode cX2_readGroup 160 = .ok (.getfield 110, 3) := by decide +kernel
theorem dX2_readGroup_163 : decode cX2_readGroup 163 = .ok (.iload_n 1, 1) := by decide +kernel
theorem dX2_readGroup_164 : decode cX2_readGroup 164 = .ok (.iload 4, 2) := by decide +kernel
theorem dX2_readGroup_166 : decode cX2_readGroup 166 = .ok (.iastore, 1) := by decide +kernel
theorem dX2_readGroup_167 : decode cX2_readGroup 167 = .ok (.aload_n 0, 1) := by decide +kernel
theorem dX2_readGroup_168 : decode cX2_readGroup 168 = .ok (.getfield 12, 3) := by decide +kernel
theorem dX2_readGroup_171 : decode cX2_readGroup 171 = .ok (.getfield 113, 3) := by decide +kernel
theorem dX2_readGroup_174 : decode cX2_readGroup 174 = .ok (.iload_n 1, 1) := by decide +kernel
theorem dX2_readGroup_175 : decode cX2_readGroup 175 = .ok (.iload 5, 2) := by decide +kernel
theorem dX2_readGroup_177 : decode cX2_readGroup 177 = .ok (.iastore, 1) := by decide +kernel
theorem dX2_readGroup_178 : decode cX2_readGroup 178 = .ok (.iload 5, 2) := by decide +kernel
theorem dX2_readGroup_180 : decode cX2_readGroup 180 = .ok (.iconst (-1), 1) := by decide +kernel
theorem dX2_readGroup_181 : decode cX2_readGroup 181 = .ok (.if_icmp .eq 7, 3) := by decide +kernel
theorem dX2_readGroup_184 : decode cX2_readGroup 184 = .ok (.iconst 1, 1) := by decide +kernel
theorem dX2_readGroup_185 : decode cX2_readGroup 185 = .ok (.goto 4, 3) := by decide +kernel
theorem dX2_readGroup_188 : decode cX2_readGroup 188 = .ok (.iconst 0, 1) := by decide +kernel
theorem dX2_readGroup_189 : decode cX2_readGroup 189 = .ok (.ireturn, 1) := by decide +kernel
theorem dX2_readMember_0 : decode cX2_readMember 0 = .ok (.aload_n 0, 1) := by decide +kernel
theorem dX2_readMember_1 : decode cX2_readMember 1 = .ok (.getfield 18, 3) := by decide +kernel
theorem dX2_readMember_4 : decode cX2_readMember 4 = .ok (.getfield 38, 3) := by decide +kernel
theorem dX2_readMember_7 : decode cX2_readMember 7 = .ok (.istore_n 1, 1) := by decide +kernel
theorem dX2_readMember_8 : decode cX2_readMember 8 = .ok (.aload_n 0, 1) := by decide +kernel
theorem dX2_readMember_9 : decode cX2_readMember 9 = .ok (.getfield 18, 3) := by decide +kernel
theorem dX2_readMember_12 : decode cX2_readMember 12 = .ok (.aload_n 0, 1) := by decide +kernel
theorem dX2_readMember_13 : decode cX2_readMember 13 = .ok (.getfield 12, 3) := by decide +kernel
theorem dX2_readMember_16 : decode cX2_readMember 16 = .ok (.iconst 0, 1) := by decide +kernel
theorem dX2_readMember_17 : decode cX2_readMember 17 = .ok (.invokevirtual 116, 3) := by decide +kernel
theorem dX2_readMember_20 : decode cX2_readMember 20 = .ok (.istore_n 2, 1) := by decide +kernel
theorem dX2_readMember_21 : decode cX2_readMember 21 = .ok (.iload_n 2, 1) := by decide +kernel
theorem dX2_readMember_22 : decode cX2_readMember 22 = .ok (.iconst (-1), 1) := by decide +kernel
theorem dX2_readMember_23 : decode cX2_readMember 23 = .ok (.if_icmp .eq 15, 3) := by decide +kernel
theorem dX2_readMember_26 : decode cX2_readMember 26 = .ok (.aload_n 0, 1) := by decide +kernel
theorem dX2_readMember_27 : decode cX2_readMember 27 = .ok (.getfield 18, 3) := by decide +kernel
theorem dX2_readMember_30 : decode cX2_readMember 30 = .ok (.bipush 8, 2) := by decide +kernel
theorem dX2_readMember_32 : decode cX2_readMember 32 = .ok (.invokevirtual 94, 3) := by decide +kernel
theorem dX2_readMember_35 : decode cX2_readMember 35 = .ok (.ifCond .ne 5, 3) := by decide +kernel
theorem dX2_readMember_38 : decode cX2_readMember 38 = .ok (.iconst 0, 1) := by decide +kernel
theorem dX2_readMember_39 : decode cX2_readMember 39 = .ok (.ireturn, 1) := by decide +kernel
theorem dX2_readMember_40 : decode cX2_readMember 40 = .ok (.aload_n 0, 1) := by decide +kernel
theorem dX2_readMember_41 : decode cX2_readMember 41 = .ok (.getfield 18, 3) := by decide +kernel
theorem dX2_readMember_44 : decode cX2_readMember 44 = .ok (.aload_n 0, 1) := by decide +kernel
theorem dX2_readMember_45 : decode cX2_readMember 45 = .ok (.getfield 12, 3) := by decide +kernel
theorem dX2_readMember_48 : decode cX2_readMember 48 = .ok (.iconst 2, 1) := by decide +kernel
theorem dX2_readMember_49 : decode cX2_readMember 49 = .ok (.invokevirtual 116, 3) := by decide +kernel
theorem dX2_readMember_52 : decode cX2_readMember 52 = .ok (.istore_n 3, 1) := by decide +kernel
theorem dX2_readMember_53 : decode cX2_readMember 53 = .ok (.iload_n 3, 1) := by decide +kernel
theorem dX2_readMember_54 : decode cX2_readMember 54 = .ok (.iconst (-1), 1) := by decide +kernel
theorem dX2_readMember_55 : decode cX2_readMember 55 = .ok (.if_icmp .ne 5, 3) := by decide +kernel
theorem dX2_readMember_58 : decode cX2_readMember 58 = .ok (.iconst 0, 1) := by decide +kernel
theorem dX2_readMember_59 : decode cX2_readMember 59 = .ok (.ireturn, 1) := by decide +kernel
theorem dX2_readMember_60 : decode cX2_readMember 60 = .ok (.aload_n 0, 1) := by decide +kernel
theorem dX2_readMember_61 : decode cX2_readMember 61 = .ok (.getfield 12, 3) := by decide +kernel
theorem dX2_readMember_64 : decode cX2_readMember 64 = .ok (.iload_n 3, 1) := by decide +kernel
theorem dX2_readMember_65 : decode cX2_readMember 65 = .ok (.iload_n 2, 1) := by decide +kernel
theorem dX2_readMember_66 : decode cX2_readMember 66 = .ok (.invokevirtual 120, 3) := by decide +kernel
theorem dX2_readMember_69 : decode cX2_readMember 69 = .ok (.ifCond .eq 13, 3) := by decide +kernel
theorem dX2_readMember_72 : decode cX2_readMember 72 = .ok (.aload_n 0, 1) := by decide +kernel
theorem dX2_readMember_73 : decode cX2_readMember 73 = .ok (.getfield 18, 3) := by decide +kernel
theorem dX2_readMember_76 : decode cX2_readMember 76 = .ok (.iconst 5, 1) := by decide +kernel
theorem dX2_readMember_77 : decode cX2_readMember 77 = .ok (.iload_n 1, 1) := by decide +kernel
theorem dX2_readMember_78 : decode cX2_readMember 78 = .ok (.invokevirtual 46, 3) := by decide +kernel
theorem dX2_readMember_81 : decode cX2_readMember 81 = .ok (.ireturn, 1) := by decide +kernel
theorem dX2_readMember_82 : decode cX2_readMember 82 = .ok (.aload_n 0, 1) := by decide +kernel
theorem dX2_readMember_83 : decode cX2_readMember 83 = .ok (.getfield 18, 3) := by decide +kernel
theorem dX2_readMember_86 : decode cX2_readMember 86 = .ok (.bipush 9, 2) := by decide +kernel
theorem dX2_readMember_88 : decode cX2_readMember 88 = .ok (.invokevirtual 94, 3) := by decide +kernel
theorem dX2_readMember_91 : decode cX2_readMember 91 = .ok (.ifCond .eq 17, 3) := by decide +kernel
theorem dX2_readMember_94 : decode cX2_readMember 94 = .ok (.aload_n 0, 1) := by decide +kernel
theorem dX2_readMember_95 : decode cX2_readMember 95 = .ok (.getfield 18, 3) := by decide +kernel
theorem dX2_readMember_98 : decode cX2_readMember 98 = .ok (.iconst 1, 1) := by decide +kernel
theorem dX2_readMember_99 : decode cX2_readMember 99 = .ok (.sipush 255, 3) := by decide +kernel
theorem dX2_readMember_102 : decode cX2_readMember 102 = .ok (.invokevirtual 97, 3) := by decide +kernel
theorem dX2_readMember_105 : decode cX2_readMember 105 = .ok (.goto 4, 3) := by decide +kernel
theorem dX2_readMember_108 : decode cX2_readMember 108 = .ok (.iconst (-1), 1) := by decide +kernel
theorem dX2_readMember_109 : decode cX2_readMember 109 = .ok (.istore 4, 2) := by decide +kernel
theorem dX2_readMember_111 : decode cX2_readMember 111 = .ok (.iload 4, 2) := by decide +kernel
theorem dX2_readMember_113 : decode cX2_readMember 113 = .ok (.iconst (-1), 1) := by decide +kernel
theorem dX2_readMember_114 : decode cX2_readMember 114 = .ok (.if_icmp .ne 5, 3) := by decide +kernel
theorem dX2_readMember_117 : decode cX2_readMember 117 = .ok (.iconst 0, 1) := by decide +kernel
theorem dX2_readMember_118 : decode cX2_readMember 118 = .ok (.ireturn, 1) := by decide +kernel
theorem dX2_readMember_119 : decode cX2_readMember 119 = .ok (.aload_n 0, 1) := by decide +kernel
theorem dX2_readMember_120 : decode cX2_readMember 120 = .ok (.getfield 18, 3) := by decide +kernel
theorem dX2_readMember_123 : decode cX2_readMember 123 = .ok (.bipush 10, 2) := by decide +kernel
theorem dX2_readMember_125 : decode cX2_readMember 125 = .ok (.invokevirtual 101, 3) := by decide +kernel
theorem dX2_readMember_128 : decode cX2_readMember 128 = .ok (.ifCond .eq 16, 3) := by decide +kernel
theorem dX2_readMember_131 : decode cX2_readMember 131 = .ok (.aload_n 0, 1) := by decide +kernel
theorem dX2_readMember_132 : decode cX2_readMember 132 = .ok (.getfield 18, 3) := by decide +kernel
theorem dX2_readMember_135 : decode cX2_readMember 135 = .ok (.iconst 0, 1) := by decide +kernel
theorem dX2_readMember_136 : decode cX2_readMember 136 = .ok (.bipush 99, 2) := by decide +kernel
theorem dX2_readMember_138 : decode cX2_readMember 138 = .ok (.invokevirtual 97, 3) := by decide +kernel
theorem dX2_readMember_141 : decode cX2_readMember 141 = .ok (.goto 4, 3) := by decide +kernel
theorem dX2_readMember_144 : decode cX2_readMember 144 = .ok (.iconst 1, 1) := by decide +kernel
theorem dX2_readMember_145 : decode cX2_readMember 145 = .ok (.istore 5, 2) := by decide +kernel
theorem dX2_readMember_147 : decode cX2_readMember 147 = .ok (.aload_n 0, 1) := by decide +kernel
theorem dX2_readMember_148 : decode cX2_readMember 148 = .ok (.getfield 12, 3) := by decide +kernel
theorem dX2_readMember_151 : decode cX2_readMember 151 = .ok (.getfield 123, 3) := by decide +kernel
theorem dX2_readMember_154 : decode cX2_readMember 154 = .ok (.iload_n 3, 1) := by decide +kernel
theorem dX2_readMember_155 : decode cX2_readMember 155 = .ok (.dup2, 1) := by decide +kernel
theorem dX2_readMember_156 : decode cX2_readMember 156 = .ok (.iaload, 1) := by decide +kernel
theorem dX2_readMember_157 : decode cX2_readMember 157 = .ok (.iconst 1, 1) := by decide +kernel
theorem dX2_readMember_158 : decode cX2_readMember 158 = .ok (.iload_n 2, 1) := by decide +kernel
theorem dX2_readMember_159 : decode cX2_readMember 159 = .ok (.ishl, 1) := by decide +kernel
theorem dX2_readMember_160 : decode cX2_readMember 160 = .ok (.ior, 1) := by decide +kernel
theorem dX2_readMember_161 : decode cX2_readMember 161 = .ok (.iastore, 1) := by decide +kernel
theorem dX2_readMember_162 : decode cX2_readMember 162 = .ok (.aload_n 0, 1) := by decide +kernel
theorem dX2_readMember_163 : decode cX2_readMember 163 = .ok (.getfield 12, 3) := by decide +kernel
theorem dX2_readMember_166 : decode cX2_readMember 166 = .ok (.getfield 126, 3) := by decide +kernel
theorem dX2_readMember_169 : decode cX2_readMember 169 = .ok (.iload_n 3, 1) := by decide +kernel
theorem dX2_readMember_170 : decode cX2_readMember 170 = .ok (.bipush 6, 2) := by decide +kernel
theorem dX2_readMember_172 : decode cX2_readMember 172 = .ok (.imul, 1) := by decide +kernel
theorem dX2_readMember_173 : decode cX2_readMember 173 = .ok (.iload_n 2, 1) := by decide +kernel
theorem dX2_readMember_174 : decode cX2_readMember 174 = .ok (.iadd, 1) := by decide +kernel
theorem dX2_readMember_175 : decode cX2_readMember 175 = .ok (.iload 4, 2) := by decide +kernel
theorem dX2_readMember_177 : decode cX2_readMember 177 = .ok (.iastore, 1) := by decide +kernel
theorem dX2_readMember_178 : decode cX2_readMember 178 = .ok (.aload_n 0, 1) := by decide +kernel
theorem dX2_readMember_179 : decode cX2_readMember 179 = .ok (.getfield 12, 3) := by decide +kernel
theorem dX2_readMember_182 : decode cX2_readMember 182 = .ok (.getfield 129, 3) := by decide +kernel
theorem dX2_readMember_185 : decode cX2_readMember 185 = .ok (.iload_n 3, 1) := by decide +kernel
theorem dX2_readMember_186 : decode cX2_readMember 186 = .ok (.bipush 6, 2) := by decide +kernel
theorem dX2_readMember_188 : decode cX2_readMember 188 = .ok (.imul, 1) := by decide +kernel
theorem dX2_readMember_189 : decode cX2_readMember 189 = .ok (.iload_n 2, 1) := by decide +kernel
theorem dX2_readMember_190 : decode cX2_readMember 190 = .ok (.iadd, 1) := by decide +kernel
theorem dX2_readMember_191 : decode cX2_readMember 191 = .ok (.iload 5, 2) := by decide +kernel
theorem dX2_readMember_193 : decode cX2_readMember 193 = .ok (.iastore, 1) := by decide +kernel
theorem dX2_readMember_194 : decode cX2_readMember 194 = .ok (.iload 5, 2) := by decide +kernel
theorem dX2_readMember_196 : decode cX2_readMember 196 = .ok (.iconst (-1), 1) := by decide +kernel
theorem dX2_readMember_197 : decode cX2_readMember 197 = .ok (.if_icmp .eq 7, 3) := by decide +kernel
theorem dX2_readMember_200 : decode cX2_readMember 200 = .ok (.iconst 1, 1) := by decide +kernel
theorem dX2_readMember_201 : decode cX2_readMember 201 = .ok (.goto 4, 3) := by decide +kernel
theorem dX2_readMember_204 : decode cX2_readMember 204 = .ok (.iconst 0, 1) := by decide +kernel
theorem dX2_readMember_205 : decode cX2_readMember 205 = .ok (.ireturn, 1) := by decide +kernel
theorem dX2_readTrack_0 : decode cX2_readTrack 0 = .ok (.aload_n 0, 1) := by decide +kernel
theorem dX2_readTrack_1 : decode cX2_readTrack 1 = .ok (.getfield 18, 3) := by decide +kernel
theorem dX2_readTrack_4 : decode cX2_readTrack 4 = .ok (.aload_n 0, 1) := by decide +kernel
theorem dX2_readTrack_5 : decode cX2_readTrack 5 = .ok (.getfield 12, 3) := by decide +kernel
theorem dX2_readTrack_8 : decode cX2_readTrack 8 = .ok (.invokevirtual 132, 3) := by decide +kernel
theorem dX2_readTrack_11 : decode cX2_readTrack 11 = .ok (.istore_n 1, 1) := by decide +kernel
theorem dX2_readTrack_12 : decode cX2_readTrack 12 = .ok (.iload_n 1, 1) := by decide +kernel
theorem dX2_readTrack_13 : decode cX2_readTrack 13 = .ok (.iconst (-1), 1) := by decide +kernel
theorem dX2_readTrack_14 : decode cX2_readTrack 14 = .ok (.if_icmp .eq 15, 3) := by decide +kernel
theorem dX2_readTrack_17 : decode cX2_readTrack 17 = .ok (.aload_n 0, 1) := by decide +kernel
theorem dX2_readTrack_18 : decode cX2_readTrack 18 = .ok (.getfield 18, 3) := by decide +kernel
theorem dX2_readTrack_21 : decode cX2_readTrack 21 = .ok (.bipush 12, 2) := by decide +kernel
theorem dX2_readTrack_23 : decode cX2_readTrack 23 = .ok (.invokevirtual 94, 3) := by decide +kernel
theorem dX2_readTrack_26 : decode cX2_readTrack 26 = .ok (.ifCond .ne 5, 3) := by decide +kernel
theorem dX2_readTrack_29 : decode cX2_readTrack 29 = .ok (.iconst 0, 1) := by decide +kernel
theorem dX2_readTrack_30 : decode cX2_readTrack 30 = .ok (.ireturn, 1) := by decide +kernel
theorem dX2_readTrack_31 : decode cX2_readTrack 31 = .ok (.aload_n 0, 1) := by decide +kernel
theorem dX2_readTrack_32 : decode cX2_readTrack 32 = .ok (.getfield 18, 3) := by decide +kernel
theorem dX2_readTrack_35 : decode cX2_readTrack 35 = .ok (.getfield 38, 3) := by decide +kernel
theorem dX2_readTrack_38 : decode cX2_readTrack 38 = .ok (.istore_n 2, 1) := by decide +kernel
theorem dX2_readTrack_39 : decode cX2_readTrack 39 = .ok (.aload_n 0, 1) := by decide +kernel
theorem dX2_readTrack_40 : decode cX2_readTrack 40 = .ok (.getfield 18, 3) := by decide +kernel
theorem dX2_readTrack_43 : decode cX2_readTrack 43 = .ok (.aload_n 0, 1) := by decide +kernel
theorem dX2_readTrack_44 : decode cX2_readTrack 44 = .ok (.getfield 12, 3) := by decide +kernel
theorem dX2_readTrack_47 : decode cX2_readTrack 47 = .ok (.iconst 1, 1) := by decide +kernel
theorem dX2_readTrack_48 : decode cX2_readTrack 48 = .ok (.invokevirtual 116, 3) := by decide +kernel
theorem dX2_readTrack_51 : decode cX2_readTrack 51 = .ok (.istore_n 3, 1) := by decide +kernel
theorem dX2_readTrack_52 : decode cX2_readTrack 52 = .ok (.iload_n 3, 1) := by decide +kernel
theorem dX2_readTrack_53 : decode cX2_readTrack 53 = .ok (.iconst (-1), 1) := by decide +kernel
theorem dX2_readTrack_54 : decode cX2_readTrack 54 = .ok (.if_icmp .ne 5, 3) := by decide +kernel
theorem dX2_readTrack_57 : decode cX2_readTrack 57 = .ok (.iconst 0, 1) := by decide +kernel
theorem dX2_readTrack_58 : decode cX2_readTrack 58 = .ok (.ireturn, 1) := by decide +kernel
theorem dX2_readTrack_59 : decode cX2_readTrack 59 = .ok (.aload_n 0, 1) := by decide +kernel
theorem dX2_readTrack_60 : decode cX2_readTrack 60 = .ok (.getfield 12, 3) := by decide +kernel
theorem dX2_readTrack_63 : decode cX2_readTrack 63 = .ok (.iload_n 1, 1) := by decide +kernel
theorem dX2_readTrack_64 : decode cX2_readTrack 64 = .ok (.iload_n 3, 1) := by decide +kernel
theorem dX2_readTrack_65 : decode cX2_readTrack 65 = .ok (.invokevirtual 136, 3) := by decide +kernel
theorem dX2_readTrack_68 : decode cX2_readTrack 68 = .ok (.ifCond .eq 13, 3) := by decide +kernel
theorem dX2_readTrack_71 : decode cX2_readTrack 71 = .ok (.aload_n 0, 1) := by decide +kernel
theorem dX2_readTrack_72 : decode cX2_readTrack 72 = .ok (.getfield 18, 3) := by decide +kernel
theorem dX2_readTrack_75 : decode cX2_readTrack 75 = .ok (.iconst 5, 1) := by decide +kernel
theorem dX2_readTrack_76 : decode cX2_readTrack 76 = .ok (.iload_n 2, 1) := by decide +kernel
theorem dX2_readTrack_77 : decode cX2_readTrack 77 = .ok (.invokevirtual 46, 3) := by decide +kernel
theorem dX2_readTrack_80 : decode cX2_readTrack 80 = .ok (.ireturn, 1) := by decide +kernel
theorem dX2_readTrack_81 : decode cX2_readTrack 81 = .ok (.aload_n 0, 1) := by decide +kernel
theorem dX2_readTrack_82 : decode cX2_readTrack 82 = .ok (.getfield 18, 3) := by decide +kernel
theorem dX2_readTrack_85 : decode cX2_readTrack 85 = .ok (.bipush 13, 2) := by decide +kernel
theorem dX2_readTrack_87 : decode cX2_readTrack 87 = .ok (.invokevirtual 94, 3) := by decide +kernel
theorem dX2_readTrack_90 : decode cX2_readTrack 90 = .ok (.ifCond .eq 17, 3) := by decide +kernel
theorem dX2_readTrack_93 : decode cX2_readTrack 93 = .ok (.aload_n 0, 1) := by decide +kernel
theorem dX2_readTrack_94 : decode cX2_readTrack 94 = .ok (.getfield 18, 3) := by decide +kernel
theorem dX2_readTrack_97 : decode cX2_readTrack 97 = .ok (.iconst 1, 1) := by decide +kernel
theorem dX2_readTrack_98 : decode cX2_readTrack 98 = .ok (.sipush 254, 3) := by decide +kernel
theorem dX2_readTrack_101 : decode cX2_readTrack 101 = .ok (.invokevirtual 97, 3) := by decide +kernel
theorem dX2_readTrack_104 : decode cX2_readTrack 104 = .ok (.goto 4, 3) := by decide +kernel
theorem dX2_readTrack_107 : decode cX2_readTrack 107 = .ok (.iconst (-1), 1) := by decide +kernel
theorem dX2_readTrack_108 : decode cX2_readTrack 108 = .ok (.istore 4, 2) := by decide +kernel
theorem dX2_readTrack_110 : decode cX2_readTrack 110 = .ok (.aload_n 0, 1) := by decide +kernel
theorem dX2_readTrack_111 : decode cX2_readTrack 111 = .ok (.getfield 12, 3) := by decide +kernel
theorem dX2_readTrack_114 : decode cX2_readTrack 114 = .ok (.getfield 71, 3) := by decide +kernel
theorem dX2_readTrack_117 : decode cX2_readTrack 117 = .ok (.istore 5, 2) := by decide +kernel
theorem dX2_readTrack_119 : decode cX2_readTrack 119 = .ok (.aload_n 0, 1) := by decide +kernel
theorem dX2_readTrack_120 : decode cX2_readTrack 120 = .ok (.getfield 12, 3) := by decide +kernel
theorem dX2_readTrack_123 : decode cX2_readTrack 123 = .ok (.getfield 139, 3) := by decide +kernel
theorem dX2_readTrack_126 : decode cX2_readTrack 126 = .ok (.iload 5, 2) := by decide +kernel
theorem dX2_readTrack_128 : decode cX2_readTrack 128 = .ok (.iload_n 1, 1) := by decide +kernel
theorem dX2_readTrack_129 : decode cX2_readTrack 129 = .ok (.iastore, 1) := by decide +kernel
theorem dX2_readTrack_130 : decode cX2_readTrack 130 = .ok (.aload_n 0, 1) := by decide +kernel
theorem dX2_readTrack_131 : decode cX2_readTrack 131 = .ok (.getfield 12, 3) := by decide +kernel
theorem dX2_readTrack_134 : decode cX2_readTrack 134 = .ok (.getfield 142, 3) := by decide +kernel
theorem dX2_readTrack_137 : decode cX2_readTrack 137 = .ok (.iload 5, 2) := by decide +kernel
theorem dX2_readTrack_139 : decode cX2_readTrack 139 = .ok (.iload_n 3, 1) := by decide +kernel
theorem dX2_readTrack_140 : decode cX2_readTrack 140 = .ok (.iastore, 1) := by decide +kernel
theorem dX2_readTrack_141 : decode cX2_readTrack 141 = .ok (.aload_n 0, 1) := by decide +kernel
theorem dX2_readTrack_142 : decode cX2_readTrack 142 = .ok (.getfield 12, 3) := by decide +kernel
theorem dX2_readTrack_145 : decode cX2_readTrack 145 = .ok (.getfield 145, 3) := by decide +kernel
theorem dX2_readTrack_148 : decode cX2_readTrack 148 = .ok (.iload 5, 2) := by decide +kernel
theorem dX2_readTrack_150 : decode cX2_readTrack 150 = .ok (.iload 4, 2) := by decide +kernel
theorem dX2_readTrack_152 : decode cX2_readTrack 152 = .ok (.iastore, 1) := by decide +kernel
theorem dX2_readTrack_153 : decode cX2_readTrack 153 = .ok (.aload_n 0, 1) := by decide +kernel
theorem dX2_readTrack_154 : decode cX2_readTrack 154 = .ok (.getfield 12, 3) := by decide +kernel
theorem dX2_readTrack_157 : decode cX2_readTrack 157 = .ok (.iload 5, 2) := by decide +kernel
theorem dX2_readTrack_159 : decode cX2_readTrack 159 = .ok (.iconst 1, 1) := by decide +kernel
theorem dX2_readTrack_160 : decode cX2_readTrack 160 = .ok (.iadd, 1) := by decide +kernel
theorem dX2_readTrack_161 : decode cX2_readTrack 161 = .ok (.putfield 71, 3) := by decide +kernel
theorem dX2_readTrack_164 : decode cX2_readTrack 164 = .ok (.iload 4, 2) := by decide +kernel
theorem dX2_readTrack_166 : decode cX2_readTrack 166 = .ok (.iconst (-1), 1) := by decide +kernel
theorem dX2_readTrack_167 : decode cX2_readTrack 167 = .ok (.if_icmp .eq 7, 3) := by decide +kernel
theorem dX2_readTrack_170 : decode cX2_readTrack 170 = .ok (.iconst 1, 1) := by decide +kernel
theorem dX2_readTrack_171 : decode cX2_readTrack 171 = .ok (.goto 4, 3) := by decide +kernel
theorem dX2_readTrack_174 : decode cX2_readTrack 174 = .ok (.iconst 0, 1) := by decide +kernel
theorem dX2_readTrack_175 : decode cX2_readTrack 175 = .ok (.ireturn, 1) := by decide +kernel
theorem dX2_readStatement_0 : decode cX2_readStatement 0 = .ok (.aload_n 0, 1) := by decide +kernel
theorem dX2_readStatement_1 : decode cX2_readStatement 1 = .ok (.getfield 18, 3) := by decide +kernel
theorem dX2_readStatement_4 : decode cX2_readStatement 4 = .ok (.getfield 38, 3) := by decide +kernel
theorem dX2_readStatement_7 : decode cX2_readStatement 7 = .ok (.istore_n 2, 1) := by decide +kernel
theorem dX2_readStatement_8 : decode cX2_readStatement 8 = .ok (.aload_n 0, 1) := by decide +kernel
theorem dX2_readStatement_9 : decode cX2_readStatement 9 = .ok (.getfield 18, 3) := by decide +kernel
theorem dX2_readStatement_12 : decode cX2_readStatement 12 = .ok (.invokevirtual 42, 3) := by decide +kernel
theorem dX2_readStatement_15 : decode cX2_readStatement 15 = .ok (.istore_n 3, 1) := by decide +kernel
theorem dX2_readStatement_16 : decode cX2_readStatement 16 = .ok (.iload_n 3, 1) := by decide +kernel
theorem dX2_readStatement_17 : decode cX2_readStatement 17 = .ok (.ifCond .eq 35, 3) := by decide +kernel
theorem dX2_readStatement_20 : decode cX2_readStatement 20 = .ok (.iload_n 3, 1) := by decide +kernel
theorem dX2_readStatement_21 : decode cX2_readStatement 21 = .ok (.iconst 1, 1) := by decide +kernel
theorem dX2_readStatement_22 : decode cX2_readStatement 22 = .ok (.if_icmp .eq 30, 3) := by decide +kernel
theorem dX2_readStatement_25 : decode cX2_readStatement 25 = .ok (.iload_n 3, 1) := by decide +kernel
theorem dX2_readStatement_26 : decode cX2_readStatement 26 = .ok (.iconst 2, 1) := by decide +kernel
theorem dX2_readStatement_27 : decode cX2_readStatement 27 = .ok (.if_icmp .eq 25, 3) := by decide +kernel
theorem dX2_readStatement_30 : decode cX2_readStatement 30 = .ok (.iload_n 3, 1) := by decide +kernel
theorem dX2_readStatement_31 : decode cX2_readStatement 31 = .ok (.bipush 7, 2) := by decide +kernel
theorem dX2_readStatement_33 : decode cX2_readStatement 33 = .ok (.if_icmp .eq 19, 3) := by decide +kernel
theorem dX2_readStatement_36 : decode cX2_readStatement 36 = .ok (.iload_n 3, 1) := by decide +kernel
theorem dX2_readStatement_37 : decode cX2_readStatement 37 = .ok (.bipush 11, 2) := by decide +kernel
theorem dX2_readStatement_39 : decode cX2_readStatement 39 = .ok (.if_icmp .eq 13, 3) := by decide +kernel
theorem dX2_readStatement_42 : decode cX2_readStatement 42 = .ok (.aload_n 0, 1) := by decide +kernel
theorem dX2_readStatement_43 : decode cX2_readStatement 43 = .ok (.getfield 18, 3) := by decide +kernel
theorem dX2_readStatement_46 : decode cX2_readStatement 46 = .ok (.iconst 1, 1) := by decide +kernel
theorem dX2_readStatement_47 : decode cX2_readStatement 47 = .ok (.iload_n 2, 1) := by decide +kernel
theorem dX2_readStatement_48 : decode cX2_readStatement 48 = .ok (.invokevirtual 46, 3) := by decide +kernel
theorem dX2_readStatement_51 : decode cX2_readStatement 51 = .ok (.ireturn, 1) := by decide +kernel
theorem dX2_readStatement_52 : decode cX2_readStatement 52 = .ok (.iload_n 1, 1) := by decide +kernel
theorem dX2_readStatement_53 : decode cX2_readStatement 53 = .ok (.bipush 60, 2) := by decide +kernel
theorem dX2_readStatement_55 : decode cX2_readStatement 55 = .ok (.if_icmp .ge 11, 3) := by decide +kernel
theorem dX2_readStatement_58 : decode cX2_readStatement 58 = .ok (.aload_n 0, 1) := by decide +kernel
theorem dX2_readStatement_59 : decode cX2_readStatement 59 = .ok (.iload_n 3, 1) := by decide +kernel
theorem dX2_readStatement_60 : decode cX2_readStatement 60 = .ok (.invokevirtual 50, 3) := by decide +kernel
theorem dX2_readStatement_63 : decode cX2_readStatement 63 = .ok (.ifCond .eq 14, 3) := by decide +kernel
theorem dX2_readStatement_66 : decode cX2_readStatement 66 = .ok (.aload_n 0, 1) := by decide +kernel
theorem dX2_readStatement_67 : decode cX2_readStatement 67 = .ok (.getfield 18, 3) := by decide +kernel
theorem dX2_readStatement_70 : decode cX2_readStatement 70 = .ok (.bipush 6, 2) := by decide +kernel
theorem dX2_readStatement_72 : decode cX2_readStatement 72 = .ok (.iload_n 2, 1) := by decide +kernel
theorem dX2_readStatement_73 : decode cX2_readStatement 73 = .ok (.invokevirtual 46, 3) := by decide +kernel
theorem dX2_readStatement_76 : decode cX2_readStatement 76 = .ok (.ireturn, 1) := by decide +kernel
theorem dX2_readStatement_77 : decode cX2_readStatement 77 = .ok (.aload_n 0, 1) := by decide +kernel
theorem dX2_readStatement_78 : decode cX2_readStatement 78 = .ok (.getfield 18, 3) := by decide +kernel
theorem dX2_readStatement_81 : decode cX2_readStatement 81 = .ok (.invokevirtual 53, 3) := by decide +kernel
theorem dX2_readStatement_84 : decode cX2_readStatement 84 = .ok (.iload_n 3, 1) := by decide +kernel
theorem dX2_readStatement_85 : decode cX2_readStatement 85 = .ok (.lookupswitch 62 #[(2, 35), (7, 44), (11, 53)], 35) := by decide +kernel
theorem dX2_readStatement_120 : decode cX2_readStatement 120 = .ok (.aload_n 0, 1) := by decide +kernel
theorem dX2_readStatement_121 : decode cX2_readStatement 121 = .ok (.invokevirtual 56, 3) := by decide +kernel
theorem dX2_readStatement_124 : decode cX2_readStatement 124 = .ok (.istore 4, 2) := by decide +kernel
theorem dX2_readStatement_126 : decode cX2_readStatement 126 = .ok (.goto 28, 3) := by decide +kernel
theorem dX2_readStatement_129 : decode cX2_readStatement 129 = .ok (.aload_n 0, 1) := by decide +kernel
theorem dX2_readStatement_130 : decode cX2_readStatement 130 = .ok (.invokevirtual 59, 3) := by decide +kernel
theorem dX2_readStatement_133 : decode cX2_readStatement 133 = .ok (.istore 4, 2) := by decide +kernel
theorem dX2_readStatement_135 : decode cX2_readStatement 135 = .ok (.goto 19, 3) := by decide +kernel
theorem dX2_readStatement_138 : decode cX2_readStatement 138 = .ok (.aload_n 0, 1) := by decide +kernel
theorem dX2_readStatement_139 : decode cX2_readStatement 139 = .ok (.invokevirtual 62, 3) := by decide +kernel
theorem dX2_readStatement_142 : decode cX2_readStatement 142 = .ok (.istore 4, 2) := by decide +kernel
theorem dX2_readStatement_144 : decode cX2_readStatement 144 = .ok (.goto 10, 3) := by decide +kernel
theorem dX2_readStatement_147 : decode cX2_readStatement 147 = .ok (.aload_n 0, 1) := by decide +kernel
theorem dX2_readStatement_148 : decode cX2_readStatement 148 = .ok (.iload_n 3, 1) := by decide +kernel
theorem dX2_readStatement_149 : decode cX2_readStatement 149 = .ok (.invokevirtual 65, 3) := by decide +kernel
theorem dX2_readStatement_152 : decode cX2_readStatement 152 = .ok (.istore 4, 2) := by decide +kernel
theorem dX2_readStatement_154 : decode cX2_readStatement 154 = .ok (.iload 4, 2) := by decide +kernel
theorem dX2_readStatement_156 : decode cX2_readStatement 156 = .ok (.ifCond .eq 17, 3) := by decide +kernel
theorem dX2_readStatement_159 : decode cX2_readStatement 159 = .ok (.aload_n 0, 1) := by decide +kernel
theorem dX2_readStatement_160 : decode cX2_readStatement 160 = .ok (.getfield 18, 3) := by decide +kernel
theorem dX2_readStatement_163 : decode cX2_readStatement 163 = .ok (.invokevirtual 68, 3) := by decide +kernel
theorem dX2_readStatement_166 : decode cX2_readStatement 166 = .ok (.ifCond .eq 7, 3) := by decide +kernel
theorem dX2_readStatement_169 : decode cX2_readStatement 169 = .ok (.iconst 1, 1) := by decide +kernel
theorem dX2_readStatement_170 : decode cX2_readStatement 170 = .ok (.goto 4, 3) := by decide +kernel
theorem dX2_readStatement_173 : decode cX2_readStatement 173 = .ok (.iconst 0, 1) := by decide +kernel
theorem dX2_readStatement_174 : decode cX2_readStatement 174 = .ok (.ireturn, 1) := by decide +kernel
theorem dX2_read_0 : decode cX2_read 0 = .ok (.aload_n 0, 1) := by decide +kernel
theorem dX2_read_1 : decode cX2_read 1 = .ok (.getfield 12, 3) := by decide +kernel
theorem dX2_read_4 : decode cX2_read 4 = .ok (.invokevirtual 22, 3) := by decide +kernel
theorem dX2_read_7 : decode cX2_read 7 = .ok (.aload_n 0, 1) := by decide +kernel
theorem dX2_read_8 : decode cX2_read 8 = .ok (.getfield 18, 3) := by decide +kernel
theorem dX2_read_11 : decode cX2_read 11 = .ok (.invokevirtual 25, 3) := by decide +kernel
theorem dX2_read_14 : decode cX2_read 14 = .ok (.iconst 0, 1) := by decide +kernel
theorem dX2_read_15 : decode cX2_read 15 = .ok (.istore_n 1, 1) := by decide +kernel
theorem dX2_read_16 : decode cX2_read 16 = .ok (.iload_n 1, 1) := by decide +kernel
theorem dX2_read_17 : decode cX2_read 17 = .ok (.bipush 60, 2) := by decide +kernel
theorem dX2_read_19 : decode cX2_read 19 = .ok (.if_icmp .gt 29, 3) := by decide +kernel
theorem dX2_read_22 : decode cX2_read 22 = .ok (.aload_n 0, 1) := by decide +kernel
theorem dX2_read_23 : decode cX2_read 23 = .ok (.getfield 18, 3) := by decide +kernel
theorem dX2_read_26 : decode cX2_read 26 = .ok (.invokevirtual 30, 3) := by decide +kernel
theorem dX2_read_29 : decode cX2_read 29 = .ok (.ifCond .ne 19, 3) := by decide +kernel
theorem dX2_read_32 : decode cX2_read 32 = .ok (.aload_n 0, 1) := by decide +kernel
theorem dX2_read_33 : decode cX2_read 33 = .ok (.iload_n 1, 1) := by decide +kernel
theorem dX2_read_34 : decode cX2_read 34 = .ok (.invokevirtual 34, 3) := by decide +kernel
theorem dX2_read_37 : decode cX2_read 37 = .ok (.ifCond .ne 5, 3) := by decide +kernel
theorem dX2_read_40 : decode cX2_read 40 = .ok (.iconst 0, 1) := by decide +kernel
theorem dX2_read_41 : decode cX2_read 41 = .ok (.ireturn, 1) := by decide +kernel
theorem dX2_read_42 : decode cX2_read 42 = .ok (.iinc 1 1, 3) := by decide +kernel
theorem dX2_read_45 : decode cX2_read 45 = .ok (.goto (-29), 3) := by decide +kernel
theorem dX2_read_48 : decode cX2_read 48 = .ok (.iconst 1, 1) := by decide +kernel
theorem dX2_read_49 : decode cX2_read 49 = .ok (.ireturn, 1) := by decide +kernel
theorem dX6_readAt_0 : decode cX6_readAt 0 = .ok (.aload_n 0, 1) := by decide +kernel
theorem dX6_readAt_1 : decode cX6_readAt 1 = .ok (.getfield 18, 3) := by decide +kernel
theorem dX6_readAt_4 : decode cX6_readAt 4 = .ok (.getfield 50, 3) := by decide +kernel
theorem dX6_readAt_7 : decode cX6_readAt 7 = .ok (.istore_n 3, 1) := by decide +kernel
theorem dX6_readAt_8 : decode cX6_readAt 8 = .ok (.aload_n 0, 1) := by decide +kernel
theorem dX6_readAt_9 : decode cX6_readAt 9 = .ok (.getfield 18, 3) := by decide +kernel
theorem dX6_readAt_12 : decode cX6_readAt 12 = .ok (.bipush 14, 2) := by decide +kernel
theorem dX6_readAt_14 : decode cX6_readAt 14 = .ok (.invokevirtual 53, 3) := by decide +kernel
theorem dX6_readAt_17 : decode cX6_readAt 17 = .ok (.ifCond .ne 5, 3) := by decide +kernel
theorem dX6_readAt_20 : decode cX6_readAt 20 = .ok (.iconst (-1), 1) := by decide +kernel
theorem dX6_readAt_21 : decode cX6_readAt 21 = .ok (.ireturn, 1) := by decide +kernel
theorem dX6_readAt_22 : decode cX6_readAt 22 = .ok (.iload_n 1, 1) := by decide +kernel
theorem dX6_readAt_23 : decode cX6_readAt 23 = .ok (.bipush 20, 2) := by decide +kernel
theorem dX6_readAt_25 : decode cX6_readAt 25 = .ok (.if_icmp .lt 16, 3) := by decide +kernel
theorem dX6_readAt_28 : decode cX6_readAt 28 = .ok (.aload_n 0, 1) := by decide +kernel
theorem dX6_readAt_29 : decode cX6_readAt 29 = .ok (.getfield 18, 3) := by decide +kernel
theorem dX6_readAt_32 : decode cX6_readAt 32 = .ok (.bipush 6, 2) := by decide +kernel
theorem dX6_readAt_34 : decode cX6_readAt 34 = .ok (.iload_n 3, 1) := by decide +kernel
theorem dX6_readAt_35 : decode cX6_readAt 35 = .ok (.invokevirtual 56, 3) := by decide +kernel
theorem dX6_readAt_38 : decode cX6_readAt 38 = .ok (.pop, 1) := by decide +kernel
theorem dX6_readAt_39 : decode cX6_readAt 39 = .ok (.iconst (-1), 1) := by decide +kernel
theorem dX6_readAt_40 : decode cX6_readAt 40 = .ok (.ireturn, 1) := by decide +kernel
theorem dX6_readAt_41 : decode cX6_readAt 41 = .ok (.aload_n 0, 1) := by decide +kernel
theorem dX6_readAt_42 : decode cX6_readAt 42 = .ok (.getfield 18, 3) := by decide +kernel
theorem dX6_readAt_45 : decode cX6_readAt 45 = .ok (.iload_n 2, 1) := by decide +kernel
theorem dX6_readAt_46 : decode cX6_readAt 46 = .ok (.sipush 9999, 3) := by decide +kernel
theorem dX6_readAt_49 : decode cX6_readAt 49 = .ok (.invokevirtual 60, 3) := by decide +kernel
theorem dX6_readAt_52 : decode cX6_readAt 52 = .ok (.ireturn, 1) := by decide +kernel
theorem dX6_readWordEvent_0 : decode cX6_readWordEvent 0 = .ok (.aload_n 0, 1) := by decide +kernel
theorem dX6_readWordEvent_1 : decode cX6_readWordEvent 1 = .ok (.getfield 18, 3) := by decide +kernel
theorem dX6_readWordEvent_4 : decode cX6_readWordEvent 4 = .ok (.aload_n 0, 1) := by decide +kernel
theorem dX6_readWordEvent_5 : decode cX6_readWordEvent 5 = .ok (.getfield 22, 3) := by decide +kernel
theorem dX6_readWordEvent_8 : decode cX6_readWordEvent 8 = .ok (.invokevirtual 84, 3) := by decide +kernel
theorem dX6_readWordEvent_11 : decode cX6_readWordEvent 11 = .ok (.istore_n 2, 1) := by decide +kernel
theorem dX6_readWordEvent_12 : decode cX6_readWordEvent 12 = .ok (.iload_n 2, 1) := by decide +kernel
theorem dX6_readWordEvent_13 : decode cX6_readWordEvent 13 = .ok (.iconst (-1), 1) := by decide +kernel
theorem dX6_readWordEvent_14 : decode cX6_readWordEvent 14 = .ok (.if_icmp .ne 7, 3) := by decide +kernel
theorem dX6_readWordEvent_17 : decode cX6_readWordEvent 17 = .ok (.iconst (-1), 1) := by decide +kernel
theorem dX6_readWordEvent_18 : decode cX6_readWordEvent 18 = .ok (.goto 14, 3) := by decide +kernel
theorem dX6_readWordEvent_21 : decode cX6_readWordEvent 21 = .ok (.aload_n 0, 1) := by decide +kernel
theorem dX6_readWordEvent_22 : decode cX6_readWordEvent 22 = .ok (.getfield 18, 3) := by decide +kernel
theorem dX6_readWordEvent_25 : decode cX6_readWordEvent 25 = .ok (.iconst 1, 1) := by decide +kernel
theorem dX6_readWordEvent_26 : decode cX6_readWordEvent 26 = .ok (.sipush 255, 3) := by decide +kernel
theorem dX6_readWordEvent_29 : decode cX6_readWordEvent 29 = .ok (.invokevirtual 60, 3) := by decide +kernel
theorem dX6_readWordEvent_32 : decode cX6_readWordEvent 32 = .ok (.istore_n 3, 1) := by decide +kernel
theorem dX6_readWordEvent_33 : decode cX6_readWordEvent 33 = .ok (.iload_n 3, 1) := by decide +kernel
theorem dX6_readWordEvent_34 : decode cX6_readWordEvent 34 = .ok (.iconst (-1), 1) := by decide +kernel
theorem dX6_readWordEvent_35 : decode cX6_readWordEvent 35 = .ok (.if_icmp .ne 5, 3) := by decide +kernel
theorem dX6_readWordEvent_38 : decode cX6_readWordEvent 38 = .ok (.iconst 0, 1) := by decide +kernel
theorem dX6_readWordEvent_39 : decode cX6_readWordEvent 39 = .ok (.ireturn, 1) := by decide +kernel
theorem dX6_readWordEvent_40 : decode cX6_readWordEvent 40 = .ok (.aload_n 0, 1) := by decide +kernel
theorem dX6_readWordEvent_41 : decode cX6_readWordEvent 41 = .ok (.getfield 12, 3) := by decide +kernel
theorem dX6_readWordEvent_44 : decode cX6_readWordEvent 44 = .ok (.iload_n 1, 1) := by decide +kernel
theorem dX6_readWordEvent_45 : decode cX6_readWordEvent 45 = .ok (.bipush 6, 2) := by decide +kernel
theorem dX6_readWordEvent_47 : decode cX6_readWordEvent 47 = .ok (.iload_n 2, 1) := by decide +kernel
theorem dX6_readWordEvent_48 : decode cX6_readWordEvent 48 = .ok (.bipush 6, 2) := by decide +kernel
theorem dX6_readWordEvent_50 : decode cX6_readWordEvent 50 = .ok (.irem, 1) := by decide +kernel
theorem dX6_readWordEvent_51 : decode cX6_readWordEvent 51 = .ok (.iload_n 2, 1) := by decide +kernel
theorem dX6_readWordEvent_52 : decode cX6_readWordEvent 52 = .ok (.bipush 6, 2) := by decide +kernel
theorem dX6_readWordEvent_54 : decode cX6_readWordEvent 54 = .ok (.idiv, 1) := by decide +kernel
theorem dX6_readWordEvent_55 : decode cX6_readWordEvent 55 = .ok (.iload_n 3, 1) := by decide +kernel
theorem dX6_readWordEvent_56 : decode cX6_readWordEvent 56 = .ok (.invokevirtual 73, 3) := by decide +kernel
theorem dX6_readWordEvent_59 : decode cX6_readWordEvent 59 = .ok (.iconst 1, 1) := by decide +kernel
theorem dX6_readWordEvent_60 : decode cX6_readWordEvent 60 = .ok (.ireturn, 1) := by decide +kernel
theorem dX6_readGates_0 : decode cX6_readGates 0 = .ok (.iconst 0, 1) := by decide +kernel
theorem dX6_readGates_1 : decode cX6_readGates 1 = .ok (.istore_n 1, 1) := by decide +kernel
theorem dX6_readGates_2 : decode cX6_readGates 2 = .ok (.iconst 0, 1) := by decide +kernel
theorem dX6_readGates_3 : decode cX6_readGates 3 = .ok (.istore_n 2, 1) := by decide +kernel
theorem dX6_readGates_4 : decode cX6_readGates 4 = .ok (.iload_n 2, 1) := by decide +kernel
theorem dX6_readGates_5 : decode cX6_readGates 5 = .ok (.bipush 6, 2) := by decide +kernel
theorem dX6_readGates_7 : decode cX6_readGates 7 = .ok (.if_icmp .gt 82, 3) := by decide +kernel
theorem dX6_readGates_10 : decode cX6_readGates 10 = .ok (.iload_n 2, 1) := by decide +kernel
theorem dX6_readGates_11 : decode cX6_readGates 11 = .ok (.ifCond .eq 13, 3) := by decide +kernel
theorem dX6_readGates_14 : decode cX6_readGates 14 = .ok (.aload_n 0, 1) := by decide +kernel
theorem dX6_readGates_15 : decode cX6_readGates 15 = .ok (.getfield 18, 3) := by decide +kernel
theorem dX6_readGates_18 : decode cX6_readGates 18 = .ok (.invokevirtual 88, 3) := by decide +kernel
theorem dX6_readGates_21 : decode cX6_readGates 21 = .ok (.ifCond .ne 68, 3) := by decide +kernel
theorem dX6_readGates_24 : decode cX6_readGates 24 = .ok (.aload_n 0, 1) := by decide +kernel
theorem dX6_readGates_25 : decode cX6_readGates 25 = .ok (.getfield 18, 3) := by decide +kernel
theorem dX6_readGates_28 : decode cX6_readGates 28 = .ok (.getfield 50, 3) := by decide +kernel
theorem dX6_readGates_31 : decode cX6_readGates 31 = .ok (.istore_n 3, 1) := by decide +kernel
theorem dX6_readGates_32 : decode cX6_readGates 32 = .ok (.aload_n 0, 1) := by decide +kernel
theorem dX6_readGates_33 : decode cX6_readGates 33 = .ok (.getfield 18, 3) := by decide +kernel
theorem dX6_readGates_36 : decode cX6_readGates 36 = .ok (.aload_n 0, 1) := by decide +kernel
theorem dX6_readGates_37 : decode cX6_readGates 37 = .ok (.getfield 22, 3) := by decide +kernel
theorem dX6_readGates_40 : decode cX6_readGates 40 = .ok (.iconst 0, 1) := by decide +kernel
theorem dX6_readGates_41 : decode cX6_readGates 41 = .ok (.invokevirtual 80, 3) := by decide +kernel
theorem dX6_readGates_44 : decode cX6_readGates 44 = .ok (.istore 4, 2) := by decide +kernel
theorem dX6_readGates_46 : decode cX6_readGates 46 = .ok (.iload 4, 2) := by decide +kernel
theorem dX6_readGates_48 : decode cX6_readGates 48 = .ok (.iconst (-1), 1) := by decide +kernel
theorem dX6_readGates_49 : decode cX6_readGates 49 = .ok (.if_icmp .ne 5, 3) := by decide +kernel
theorem dX6_readGates_52 : decode cX6_readGates 52 = .ok (.iconst (-1), 1) := by decide +kernel
theorem dX6_readGates_53 : decode cX6_readGates 53 = .ok (.ireturn, 1) := by decide +kernel
theorem dX6_readGates_54 : decode cX6_readGates 54 = .ok (.iload_n 1, 1) := by decide +kernel
theorem dX6_readGates_55 : decode cX6_readGates 55 = .ok (.iload 4, 2) := by decide +kernel
theorem dX6_readGates_57 : decode cX6_readGates 57 = .ok (.ishr, 1) := by decide +kernel
theorem dX6_readGates_58 : decode cX6_readGates 58 = .ok (.iconst 1, 1) := by decide +kernel
theorem dX6_readGates_59 : decode cX6_readGates 59 = .ok (.iand, 1) := by decide +kernel
theorem dX6_readGates_60 : decode cX6_readGates 60 = .ok (.iconst 1, 1) := by decide +kernel
theorem dX6_readGates_61 : decode cX6_readGates 61 = .ok (.if_icmp .ne 15, 3) := by decide +kernel
theorem dX6_readGates_64 : decode cX6_readGates 64 = .ok (.aload_n 0, 1) := by decide +kernel
theorem dX6_readGates_65 : decode cX6_readGates 65 = .ok (.getfield 18, 3) := by decide +kernel
theorem dX6_readGates_68 : decode cX6_readGates 68 = .ok (.iconst 5, 1) := by decide +kernel
theorem dX6_readGates_69 : decode cX6_readGates 69 = .ok (.iload_n 3, 1) := by decide +kernel
theorem dX6_readGates_70 : decode cX6_readGates 70 = .ok (.invokevirtual 56, 3) := by decide +kernel
theorem dX6_readGates_73 : decode cX6_readGates 73 = .ok (.pop, 1) := by decide +kernel
theorem dX6_readGates_74 : decode cX6_readGates 74 = .ok (.iconst (-1), 1) := by decide +kernel
theorem dX6_readGates_75 : decode cX6_readGates 75 = .ok (.ireturn, 1) := by decide +kernel
theorem dX6_readGates_76 : decode cX6_readGates 76 = .ok (.iload_n 1, 1) := by decide +kernel
theorem dX6_readGates_77 : decode cX6_readGates 77 = .ok (.iconst 1, 1) := by decide +kernel
theorem dX6_readGates_78 : decode cX6_readGates 78 = .ok (.iload 4, 2) := by decide +kernel
theorem dX6_readGates_80 : decode cX6_readGates 80 = .ok (.ishl, 1) := by decide +kernel
theorem dX6_readGates_81 : decode cX6_readGates 81 = .ok (.ior, 1) := by decide +kernel
theorem dX6_readGates_82 : decode cX6_readGates 82 = .ok (.istore_n 1, 1) := by decide +kernel
theorem dX6_readGates_83 : decode cX6_readGates 83 = .ok (.iinc 2 1, 3) := by decide +kernel
theorem dX6_readGates_86 : decode cX6_readGates 86 = .ok (.goto (-82), 3) := by decide +kernel
theorem dX6_readGates_89 : decode cX6_readGates 89 = .ok (.iload_n 1, 1) := by decide +kernel
theorem dX6_readGates_90 : decode cX6_readGates 90 = .ok (.ireturn, 1) := by decide +kernel
theorem dX6_readEvent_0 : decode cX6_readEvent 0 = .ok (.aload_n 0, 1) := by decide +kernel
theorem dX6_readEvent_1 : decode cX6_readEvent 1 = .ok (.getfield 18, 3) := by decide +kernel
theorem dX6_readEvent_4 : decode cX6_readEvent 4 = .ok (.invokevirtual 63, 3) := by decide +kernel
theorem dX6_readEvent_7 : decode cX6_readEvent 7 = .ok (.istore_n 2, 1) := by decide +kernel
theorem dX6_readEvent_8 : decode cX6_readEvent 8 = .ok (.iload_n 2, 1) := by decide +kernel
theorem dX6_readEvent_9 : decode cX6_readEvent 9 = .ok (.bipush 9, 2) := by decide +kernel
theorem dX6_readEvent_11 : decode cX6_readEvent 11 = .ok (.if_icmp .eq 31, 3) := by decide +kernel
theorem dX6_readEvent_14 : decode cX6_readEvent 14 = .ok (.iload_n 2, 1) := by decide +kernel
theorem dX6_readEvent_15 : decode cX6_readEvent 15 = .ok (.bipush 15, 2) := by decide +kernel
theorem dX6_readEvent_17 : decode cX6_readEvent 17 = .ok (.if_icmp .lt 9, 3) := by decide +kernel
theorem dX6_readEvent_20 : decode cX6_readEvent 20 = .ok (.iload_n 2, 1) := by decide +kernel
theorem dX6_readEvent_21 : decode cX6_readEvent 21 = .ok (.bipush 20, 2) := by decide +kernel
theorem dX6_readEvent_23 : decode cX6_readEvent 23 = .ok (.if_icmp .le 19, 3) := by decide +kernel
theorem dX6_readEvent_26 : decode cX6_readEvent 26 = .ok (.aload_n 0, 1) := by decide +kernel
theorem dX6_readEvent_27 : decode cX6_readEvent 27 = .ok (.getfield 18, 3) := by decide +kernel
theorem dX6_readEvent_30 : decode cX6_readEvent 30 = .ok (.iconst 1, 1) := by decide +kernel
theorem dX6_readEvent_31 : decode cX6_readEvent 31 = .ok (.aload_n 0, 1) := by decide +kernel
theorem dX6_readEvent_32 : decode cX6_readEvent 32 = .ok (.getfield 18, 3) := by decide +kernel
theorem dX6_readEvent_35 : decode cX6_readEvent 35 = .ok (.getfield 50, 3) := by decide +kernel
theorem dX6_readEvent_38 : decode cX6_readEvent 38 = .ok (.invokevirtual 56, 3) := by decide +kernel
theorem dX6_readEvent_41 : decode cX6_readEvent 41 = .ok (.ireturn, 1) := by decide +kernel
theorem dX6_readEvent_42 : decode cX6_readEvent 42 = .ok (.aload_n 0, 1) := by decide +kernel
theorem dX6_readEvent_43 : decode cX6_readEvent 43 = .ok (.getfield 18, 3) := by decide +kernel
theorem dX6_readEvent_46 : decode cX6_readEvent 46 = .ok (.invokevirtual 67, 3) := by decide +kernel
theorem dX6_readEvent_49 : decode cX6_readEvent 49 = .ok (.iload_n 2, 1) := by decide +kernel
theorem dX6_readEvent_50 : decode cX6_readEvent 50 = .ok (.bipush 9, 2) := by decide +kernel
theorem dX6_readEvent_52 : decode cX6_readEvent 52 = .ok (.if_icmp .ne 8, 3) := by decide +kernel
theorem dX6_readEvent_55 : decode cX6_readEvent 55 = .ok (.bipush 6, 2) := by decide +kernel
theorem dX6_readEvent_57 : decode cX6_readEvent 57 = .ok (.goto 7, 3) := by decide +kernel
theorem dX6_readEvent_60 : decode cX6_readEvent 60 = .ok (.iload_n 2, 1) := by decide +kernel
theorem dX6_readEvent_61 : decode cX6_readEvent 61 = .ok (.bipush 15, 2) := by decide +kernel
theorem dX6_readEvent_63 : decode cX6_readEvent 63 = .ok (.isub, 1) := by decide +kernel
theorem dX6_readEvent_64 : decode cX6_readEvent 64 = .ok (.istore_n 3, 1) := by decide +kernel
theorem dX6_readEvent_65 : decode cX6_readEvent 65 = .ok (.iload_n 3, 1) := by decide +kernel
theorem dX6_readEvent_66 : decode cX6_readEvent 66 = .ok (.bipush 6, 2) := by decide +kernel
theorem dX6_readEvent_68 : decode cX6_readEvent 68 = .ok (.if_icmp .ne 9, 3) := by decide +kernel
theorem dX6_readEvent_71 : decode cX6_readEvent 71 = .ok (.aload_n 0, 1) := by decide +kernel
theorem dX6_readEvent_72 : decode cX6_readEvent 72 = .ok (.iload_n 1, 1) := by decide +kernel
theorem dX6_readEvent_73 : decode cX6_readEvent 73 = .ok (.invokevirtual 70, 3) := by decide +kernel
theorem dX6_readEvent_76 : decode cX6_readEvent 76 = .ok (.ireturn, 1) := by decide +kernel
theorem dX6_readEvent_77 : decode cX6_readEvent 77 = .ok (.iload_n 3, 1) := by decide +kernel
theorem dX6_readEvent_78 : decode cX6_readEvent 78 = .ok (.iconst 5, 1) := by decide +kernel
theorem dX6_readEvent_79 : decode cX6_readEvent 79 = .ok (.if_icmp .ne 17, 3) := by decide +kernel
theorem dX6_readEvent_82 : decode cX6_readEvent 82 = .ok (.aload_n 0, 1) := by decide +kernel
theorem dX6_readEvent_83 : decode cX6_readEvent 83 = .ok (.getfield 12, 3) := by decide +kernel
theorem dX6_readEvent_86 : decode cX6_readEvent 86 = .ok (.iload_n 1, 1) := by decide +kernel
theorem dX6_readEvent_87 : decode cX6_readEvent 87 = .ok (.iconst 5, 1) := by decide +kernel
theorem dX6_readEvent_88 : decode cX6_readEvent 88 = .ok (.iconst (-1), 1) := by decide +kernel
theorem dX6_readEvent_89 : decode cX6_readEvent 89 = .ok (.iconst (-1), 1) := by decide +kernel
theorem dX6_readEvent_90 : decode cX6_readEvent 90 = .ok (.iconst (-1), 1) := by decide +kernel
theorem dX6_readEvent_91 : decode cX6_readEvent 91 = .ok (.invokevirtual 73, 3) := by decide +kernel
theorem dX6_readEvent_94 : decode cX6_readEvent 94 = .ok (.iconst 1, 1) := by decide +kernel
theorem dX6_readEvent_95 : decode cX6_readEvent 95 = .ok (.ireturn, 1) := by decide +kernel
theorem dX6_readEvent_96 : decode cX6_readEvent 96 = .ok (.iload_n 3, 1) := by decide +kernel
theorem dX6_readEvent_97 : decode cX6_readEvent 97 = .ok (.iconst 4, 1) := by decide +kernel
theorem dX6_readEvent_98 : decode cX6_readEvent 98 = .ok (.if_icmp .ne 10, 3) := by decide +kernel
theorem dX6_readEvent_101 : decode cX6_readEvent 101 = .ok (.aload_n 0, 1) := by decide +kernel
theorem dX6_readEvent_102 : decode cX6_readEvent 102 = .ok (.invokevirtual 77, 3) := by decide +kernel
theorem dX6_readEvent_105 : decode cX6_readEvent 105 = .ok (.goto 24, 3) := by decide +kernel
theorem dX6_readEvent_108 : decode cX6_readEvent 108 = .ok (.aload_n 0, 1) := by decide +kernel
theorem dX6_readEvent_109 : decode cX6_readEvent 109 = .ok (.getfield 18, 3) := by decide +kernel
theorem dX6_readEvent_112 : decode cX6_readEvent 112 = .ok (.aload_n 0, 1) := by decide +kernel
theorem dX6_readEvent_113 : decode cX6_readEvent 113 = .ok (.getfield 22, 3) := by decide +kernel
theorem dX6_readEvent_116 : decode cX6_readEvent 116 = .ok (.iload_n 3, 1) := by decide +kernel
theorem dX6_readEvent_117 : decode cX6_readEvent 117 = .ok (.iconst 1, 1) := by decide +kernel
theorem dX6_readEvent_118 : decode cX6_readEvent 118 = .ok (.if_icmp .gt 7, 3) := by decide +kernel
theorem dX6_readEvent_121 : decode cX6_readEvent 121 = .ok (.iconst 0, 1) := by decide +kernel
theorem dX6_readEvent_122 : decode cX6_readEvent 122 = .ok (.goto 4, 3) := by decide +kernel
theorem dX6_readEvent_125 : decode cX6_readEvent 125 = .ok (.iconst 1, 1) := by decide +kernel
theorem dX6_readEvent_126 : decode cX6_readEvent 126 = .ok (.invokevirtual 80, 3) := by decide +kernel
theorem dX6_readEvent_129 : decode cX6_readEvent 129 = .ok (.istore 4, 2) := by decide +kernel
theorem dX6_readEvent_131 : decode cX6_readEvent 131 = .ok (.aload_n 0, 1) := by decide +kernel
theorem dX6_readEvent_132 : decode cX6_readEvent 132 = .ok (.getfield 12, 3) := by decide +kernel
theorem dX6_readEvent_135 : decode cX6_readEvent 135 = .ok (.iload_n 1, 1) := by decide +kernel
theorem dX6_readEvent_136 : decode cX6_readEvent 136 = .ok (.iload_n 3, 1) := by decide +kernel
theorem dX6_readEvent_137 : decode cX6_readEvent 137 = .ok (.iload 4, 2) := by decide +kernel
theorem dX6_readEvent_139 : decode cX6_readEvent 139 = .ok (.iconst (-1), 1) := by decide +kernel
theorem dX6_readEvent_140 : decode cX6_readEvent 140 = .ok (.iconst (-1), 1) := by decide +kernel
theorem dX6_readEvent_141 : decode cX6_readEvent 141 = .ok (.invokevirtual 73, 3) := by decide +kernel
theorem dX6_readEvent_144 : decode cX6_readEvent 144 = .ok (.iload 4, 2) := by decide +kernel
theorem dX6_readEvent_146 : decode cX6_readEvent 146 = .ok (.iconst (-1), 1) := by decide +kernel
theorem dX6_readEvent_147 : decode cX6_readEvent 147 = .ok (.if_icmp .eq 7, 3) := by decide +kernel
theorem dX6_readEvent_150 : decode cX6_readEvent 150 = .ok (.iconst 1, 1) := by decide +kernel
theorem dX6_readEvent_151 : decode cX6_readEvent 151 = .ok (.goto 4, 3) := by decide +kernel
theorem dX6_readEvent_154 : decode cX6_readEvent 154 = .ok (.iconst 0, 1) := by decide +kernel
theorem dX6_readEvent_155 : decode cX6_readEvent 155 = .ok (.ireturn, 1) := by decide +kernel
theorem dX6_read_0 : decode cX6_read 0 = .ok (.aload_n 0, 1) := by decide +kernel
theorem dX6_read_1 : decode cX6_read 1 = .ok (.getfield 12, 3) := by decide +kernel
theorem dX6_read_4 : decode cX6_read 4 = .ok (.iconst 0, 1) := by decide +kernel
theorem dX6_read_5 : decode cX6_read 5 = .ok (.putfield 26, 3) := by decide +kernel
theorem dX6_read_8 : decode cX6_read 8 = .ok (.aload_n 0, 1) := by decide +kernel
theorem dX6_read_9 : decode cX6_read 9 = .ok (.getfield 18, 3) := by decide +kernel
theorem dX6_read_12 : decode cX6_read 12 = .ok (.invokevirtual 30, 3) := by decide +kernel
theorem dX6_read_15 : decode cX6_read 15 = .ok (.iconst 0, 1) := by decide +kernel
theorem dX6_read_16 : decode cX6_read 16 = .ok (.istore_n 1, 1) := by decide +kernel
theorem dX6_read_17 : decode cX6_read 17 = .ok (.iconst 0, 1) := by decide +kernel
theorem dX6_read_18 : decode cX6_read 18 = .ok (.istore_n 2, 1) := by decide +kernel
theorem dX6_read_19 : decode cX6_read 19 = .ok (.iload_n 2, 1) := by decide +kernel
theorem dX6_read_20 : decode cX6_read 20 = .ok (.bipush 20, 2) := by decide +kernel
theorem dX6_read_22 : decode cX6_read 22 = .ok (.if_icmp .gt 51, 3) := by decide +kernel
theorem dX6_read_25 : decode cX6_read 25 = .ok (.aload_n 0, 1) := by decide +kernel
theorem dX6_read_26 : decode cX6_read 26 = .ok (.getfield 18, 3) := by decide +kernel
theorem dX6_read_29 : decode cX6_read 29 = .ok (.invokevirtual 35, 3) := by decide +kernel
theorem dX6_read_32 : decode cX6_read 32 = .ok (.ifCond .ne 41, 3) := by decide +kernel
theorem dX6_read_35 : decode cX6_read 35 = .ok (.aload_n 0, 1) := by decide +kernel
theorem dX6_read_36 : decode cX6_read 36 = .ok (.iload_n 2, 1) := by decide +kernel
theorem dX6_read_37 : decode cX6_read 37 = .ok (.iload_n 1, 1) := by decide +kernel
theorem dX6_read_38 : decode cX6_read 38 = .ok (.invokevirtual 39, 3) := by decide +kernel
theorem dX6_read_41 : decode cX6_read 41 = .ok (.istore_n 1, 1) := by decide +kernel
theorem dX6_read_42 : decode cX6_read 42 = .ok (.iload_n 1, 1) := by decide +kernel
theorem dX6_read_43 : decode cX6_read 43 = .ok (.iconst (-1), 1) := by decide +kernel
theorem dX6_read_44 : decode cX6_read 44 = .ok (.if_icmp .eq 21, 3) := by decide +kernel
theorem dX6_read_47 : decode cX6_read 47 = .ok (.aload_n 0, 1) := by decide +kernel
theorem dX6_read_48 : decode cX6_read 48 = .ok (.iload_n 1, 1) := by decide +kernel
theorem dX6_read_49 : decode cX6_read 49 = .ok (.invokevirtual 43, 3) := by decide +kernel
theorem dX6_read_52 : decode cX6_read 52 = .ok (.ifCond .eq 13, 3) := by decide +kernel
theorem dX6_read_55 : decode cX6_read 55 = .ok (.aload_n 0, 1) := by decide +kernel
theorem dX6_read_56 : decode cX6_read 56 = .ok (.getfield 18, 3) := by decide +kernel
theorem dX6_read_59 : decode cX6_read 59 = .ok (.invokevirtual 47, 3) := by decide +kernel
theorem dX6_read_62 : decode cX6_read 62 = .ok (.ifCond .ne 5, 3) := by decide +kernel
theorem dX6_read_65 : decode cX6_read 65 = .ok (.iconst 0, 1) := by decide +kernel
theorem dX6_read_66 : decode cX6_read 66 = .ok (.ireturn, 1) := by decide +kernel
theorem dX6_read_67 : decode cX6_read 67 = .ok (.iinc 2 1, 3) := by decide +kernel
theorem dX6_read_70 : decode cX6_read 70 = .ok (.goto (-51), 3) := by decide +kernel
theorem dX6_read_73 : decode cX6_read 73 = .ok (.iconst 1, 1) := by decide +kernel
theorem dX6_read_74 : decode cX6_read 74 = .ok (.ireturn, 1) := by decide +kernel
