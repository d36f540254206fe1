theorem dX1_clear_0 : decode cX1_clear 0 = .ok (.iconst 0, 1) := by decide +kernel
theorem dX1_clear_1 : decode cX1_clear 1 = .ok (.istore_n 1, 1) := by decide +kernel
theorem dX1_clear_2 : decode cX1_clear 2 = .ok (.iload_n 1, 1) := by decide +kernel
theorem dX1_clear_3 : decode cX1_clear 3 = .ok (.iconst 3, 1) := by decide +kernel
theorem dX1_clear_4 : decode cX1_clear 4 = .ok (.if_icmp .ge 16, 3) := by decide +kernel
theorem dX1_clear_7 : decode cX1_clear 7 = .ok (.aload_n 0, 1) := by decide +kernel
theorem dX1_clear_8 : decode cX1_clear 8 = .ok (.getfield 9, 3) := by decide +kernel
theorem dX1_clear_11 : decode cX1_clear 11 = .ok (.iload_n 1, 1) := by decide +kernel
theorem dX1_clear_12 : decode cX1_clear 12 = .ok (.iconst 0, 1) := by decide +kernel
theorem dX1_clear_13 : decode cX1_clear 13 = .ok (.iastore, 1) := by decide +kernel
theorem dX1_clear_14 : decode cX1_clear 14 = .ok (.iinc 1 1, 3) := by decide +kernel
theorem dX1_clear_17 : decode cX1_clear 17 = .ok (.goto (-15), 3) := by decide +kernel
theorem dX1_clear_20 : decode cX1_clear 20 = .ok (.iconst 0, 1) := by decide +kernel
theorem dX1_clear_21 : decode cX1_clear 21 = .ok (.istore_n 1, 1) := by decide +kernel
theorem dX1_clear_22 : decode cX1_clear 22 = .ok (.iload_n 1, 1) := by decide +kernel
theorem dX1_clear_23 : decode cX1_clear 23 = .ok (.iconst 5, 1) := by decide +kernel
theorem dX1_clear_24 : decode cX1_clear 24 = .ok (.if_icmp .ge 16, 3) := by decide +kernel
theorem dX1_clear_27 : decode cX1_clear 27 = .ok (.aload_n 0, 1) := by decide +kernel
theorem dX1_clear_28 : decode cX1_clear 28 = .ok (.getfield 30, 3) := by decide +kernel
theorem dX1_clear_31 : decode cX1_clear 31 = .ok (.iload_n 1, 1) := by decide +kernel
theorem dX1_clear_32 : decode cX1_clear 32 = .ok (.iconst 0, 1) := by decide +kernel
theorem dX1_clear_33 : decode cX1_clear 33 = .ok (.iastore, 1) := by decide +kernel
theorem dX1_clear_34 : decode cX1_clear 34 = .ok (.iinc 1 1, 3) := by decide +kernel
theorem dX1_clear_37 : decode cX1_clear 37 = .ok (.goto (-15), 3) := by decide +kernel
theorem dX1_clear_40 : decode cX1_clear 40 = .ok (.aload_n 0, 1) := by decide +kernel
theorem dX1_clear_41 : decode cX1_clear 41 = .ok (.iconst 0, 1) := by decide +kernel
theorem dX1_clear_42 : decode cX1_clear 42 = .ok (.putfield 48, 3) := by decide +kernel
theorem dX1_clear_45 : decode cX1_clear 45 = .ok (.return_, 1) := by decide +kernel
theorem dX1_copyFrom_0 : decode cX1_copyFrom 0 = .ok (.aload_n 1, 1) := by decide +kernel
theorem dX1_copyFrom_1 : decode cX1_copyFrom 1 = .ok (.getfield 9, 3) := by decide +kernel
theorem dX1_copyFrom_4 : decode cX1_copyFrom 4 = .ok (.iconst 0, 1) := by decide +kernel
theorem dX1_copyFrom_5 : decode cX1_copyFrom 5 = .ok (.aload_n 0, 1) := by decide +kernel
theorem dX1_copyFrom_6 : decode cX1_copyFrom 6 = .ok (.getfield 9, 3) := by decide +kernel
theorem dX1_copyFrom_9 : decode cX1_copyFrom 9 = .ok (.iconst 0, 1) := by decide +kernel
theorem dX1_copyFrom_10 : decode cX1_copyFrom 10 = .ok (.iconst 3, 1) := by decide +kernel
theorem dX1_copyFrom_11 : decode cX1_copyFrom 11 = .ok (.invokestatic 52, 3) := by decide +kernel
theorem dX1_copyFrom_14 : decode cX1_copyFrom 14 = .ok (.aload_n 1, 1) := by decide +kernel
theorem dX1_copyFrom_15 : decode cX1_copyFrom 15 = .ok (.getfield 15, 3) := by decide +kernel
theorem dX1_copyFrom_18 : decode cX1_copyFrom 18 = .ok (.iconst 0, 1) := by decide +kernel
theorem dX1_copyFrom_19 : decode cX1_copyFrom 19 = .ok (.aload_n 0, 1) := by decide +kernel
theorem dX1_copyFrom_20 : decode cX1_copyFrom 20 = .ok (.getfield 15, 3) := by decide +kernel
theorem dX1_copyFrom_23 : decode cX1_copyFrom 23 = .ok (.iconst 0, 1) := by decide +kernel
theorem dX1_copyFrom_24 : decode cX1_copyFrom 24 = .ok (.bipush 24, 2) := by decide +kernel
theorem dX1_copyFrom_26 : decode cX1_copyFrom 26 = .ok (.invokestatic 52, 3) := by decide +kernel
theorem dX1_copyFrom_29 : decode cX1_copyFrom 29 = .ok (.aload_n 1, 1) := by decide +kernel
theorem dX1_copyFrom_30 : decode cX1_copyFrom 30 = .ok (.getfield 18, 3) := by decide +kernel
theorem dX1_copyFrom_33 : decode cX1_copyFrom 33 = .ok (.iconst 0, 1) := by decide +kernel
theorem dX1_copyFrom_34 : decode cX1_copyFrom 34 = .ok (.aload_n 0, 1) := by decide +kernel
theorem dX1_copyFrom_35 : decode cX1_copyFrom 35 = .ok (.getfield 18, 3) := by decide +kernel
theorem dX1_copyFrom_38 : decode cX1_copyFrom 38 = .ok (.iconst 0, 1) := by decide +kernel
theorem dX1_copyFrom_39 : decode cX1_copyFrom 39 = .ok (.iconst 5, 1) := by decide +kernel
theorem dX1_copyFrom_40 : decode cX1_copyFrom 40 = .ok (.invokestatic 52, 3) := by decide +kernel
theorem dX1_copyFrom_43 : decode cX1_copyFrom 43 = .ok (.aload_n 1, 1) := by decide +kernel
theorem dX1_copyFrom_44 : decode cX1_copyFrom 44 = .ok (.getfield 21, 3) := by decide +kernel
theorem dX1_copyFrom_47 : decode cX1_copyFrom 47 = .ok (.iconst 0, 1) := by decide +kernel
theorem dX1_copyFrom_48 : decode cX1_copyFrom 48 = .ok (.aload_n 0, 1) := by decide +kernel
theorem dX1_copyFrom_49 : decode cX1_copyFrom 49 = .ok (.getfield 21, 3) := by decide +kernel
theorem dX1_copyFrom_52 : decode cX1_copyFrom 52 = .ok (.iconst 0, 1) := by decide +kernel
theorem dX1_copyFrom_53 : decode cX1_copyFrom 53 = .ok (.iconst 5, 1) := by decide +kernel
theorem dX1_copyFrom_54 : decode cX1_copyFrom 54 = .ok (.invokestatic 52, 3) := by decide +kernel
theorem dX1_copyFrom_57 : decode cX1_copyFrom 57 = .ok (.aload_n 1, 1) := by decide +kernel
theorem dX1_copyFrom_58 : decode cX1_copyFrom 58 = .ok (.getfield 24, 3) := by decide +kernel
theorem dX1_copyFrom_61 : decode cX1_copyFrom 61 = .ok (.iconst 0, 1) := by decide +kernel
theorem dX1_copyFrom_62 : decode cX1_copyFrom 62 = .ok (.aload_n 0, 1) := by decide +kernel
theorem dX1_copyFrom_63 : decode cX1_copyFrom 63 = .ok (.getfield 24, 3) := by decide +kernel
theorem dX1_copyFrom_66 : decode cX1_copyFrom 66 = .ok (.iconst 0, 1) := by decide +kernel
theorem dX1_copyFrom_67 : decode cX1_copyFrom 67 = .ok (.iconst 5, 1) := by decide +kernel
theorem dX1_copyFrom_68 : decode cX1_copyFrom 68 = .ok (.invokestatic 52, 3) := by decide +kernel
theorem dX1_copyFrom_71 : decode cX1_copyFrom 71 = .ok (.aload_n 1, 1) := by decide +kernel
theorem dX1_copyFrom_72 : decode cX1_copyFrom 72 = .ok (.getfield 27, 3) := by decide +kernel
theorem dX1_copyFrom_75 : decode cX1_copyFrom 75 = .ok (.iconst 0, 1) := by decide +kernel
theorem dX1_copyFrom_76 : decode cX1_copyFrom 76 = .ok (.aload_n 0, 1) := by decide +kernel
theorem dX1_copyFrom_77 : decode cX1_copyFrom 77 = .ok (.getfield 27, 3) := by decide +kernel
theorem dX1_copyFrom_80 : decode cX1_copyFrom 80 = .ok (.iconst 0, 1) := by decide +kernel
theorem dX1_copyFrom_81 : decode cX1_copyFrom 81 = .ok (.iconst 5, 1) := by decide +kernel
theorem dX1_copyFrom_82 : decode cX1_copyFrom 82 = .ok (.invokestatic 52, 3) := by decide +kernel
theorem dX1_copyFrom_85 : decode cX1_copyFrom 85 = .ok (.aload_n 1, 1) := by decide +kernel
theorem dX1_copyFrom_86 : decode cX1_copyFrom 86 = .ok (.getfield 30, 3) := by decide +kernel
theorem dX1_copyFrom_89 : decode cX1_copyFrom 89 = .ok (.iconst 0, 1) := by decide +kernel
theorem dX1_copyFrom_90 : decode cX1_copyFrom 90 = .ok (.aload_n 0, 1) := by decide +kernel
theorem dX1_copyFrom_91 : decode cX1_copyFrom 91 = .ok (.getfield 30, 3) := by decide +kernel
theorem dX1_copyFrom_94 : decode cX1_copyFrom 94 = .ok (.iconst 0, 1) := by decide +kernel
theorem dX1_copyFrom_95 : decode cX1_copyFrom 95 = .ok (.iconst 5, 1) := by decide +kernel
theorem dX1_copyFrom_96 : decode cX1_copyFrom 96 = .ok (.invokestatic 52, 3) := by decide +kernel
theorem dX1_copyFrom_99 : decode cX1_copyFrom 99 = .ok (.aload_n 1, 1) := by decide +kernel
theorem dX1_copyFrom_100 : decode cX1_copyFrom 100 = .ok (.getfield 33, 3) := by decide +kernel
theorem dX1_copyFrom_103 : decode cX1_copyFrom 103 = .ok (.iconst 0, 1) := by decide +kernel
theorem dX1_copyFrom_104 : decode cX1_copyFrom 104 = .ok (.aload_n 0, 1) := by decide +kernel
theorem dX1_copyFrom_105 : decode cX1_copyFrom 105 = .ok (.getfield 33, 3) := by decide +kernel
theorem dX1_copyFrom_108 : decode cX1_copyFrom 108 = .ok (.iconst 0, 1) := by decide +kernel
theorem dX1_copyFrom_109 : decode cX1_copyFrom 109 = .ok (.bipush 30, 2) := by decide +kernel
theorem dX1_copyFrom_111 : decode cX1_copyFrom 111 = .ok (.invokestatic 52, 3) := by decide +kernel
theorem dX1_copyFrom_114 : decode cX1_copyFrom 114 = .ok (.aload_n 1, 1) := by decide +kernel
theorem dX1_copyFrom_115 : decode cX1_copyFrom 115 = .ok (.getfield 36, 3) := by decide +kernel
theorem dX1_copyFrom_118 : decode cX1_copyFrom 118 = .ok (.iconst 0, 1) := by decide +kernel
theorem dX1_copyFrom_119 : decode cX1_copyFrom 119 = .ok (.aload_n 0, 1) := by decide +kernel
theorem dX1_copyFrom_120 : decode cX1_copyFrom 120 = .ok (.getfield 36, 3) := by decide +kernel
theorem dX1_copyFrom_123 : decode cX1_copyFrom 123 = .ok (.iconst 0, 1) := by decide +kernel
theorem dX1_copyFrom_124 : decode cX1_copyFrom 124 = .ok (.bipush 30, 2) := by decide +kernel
theorem dX1_copyFrom_126 : decode cX1_copyFrom 126 = .ok (.invokestatic 52, 3) := by decide +kernel
theorem dX1_copyFrom_129 : decode cX1_copyFrom 129 = .ok (.aload_n 0, 1) := by decide +kernel
theorem dX1_copyFrom_130 : decode cX1_copyFrom 130 = .ok (.aload_n 1, 1) := by decide +kernel
theorem dX1_copyFrom_131 : decode cX1_copyFrom 131 = .ok (.getfield 48, 3) := by decide +kernel
theorem dX1_copyFrom_134 : decode cX1_copyFrom 134 = .ok (.putfield 48, 3) := by decide +kernel
theorem dX1_copyFrom_137 : decode cX1_copyFrom 137 = .ok (.aload_n 1, 1) := by decide +kernel
theorem dX1_copyFrom_138 : decode cX1_copyFrom 138 = .ok (.getfield 39, 3) := by decide +kernel
theorem dX1_copyFrom_141 : decode cX1_copyFrom 141 = .ok (.iconst 0, 1) := by decide +kernel
theorem dX1_copyFrom_142 : decode cX1_copyFrom 142 = .ok (.aload_n 0, 1) := by decide +kernel
theorem dX1_copyFrom_143 : decode cX1_copyFrom 143 = .ok (.getfield 39, 3) := by decide +kernel
theorem dX1_copyFrom_146 : decode cX1_copyFrom 146 = .ok (.iconst 0, 1) := by decide +kernel
theorem dX1_copyFrom_147 : decode cX1_copyFrom 147 = .ok (.bipush 24, 2) := by decide +kernel
theorem dX1_copyFrom_149 : decode cX1_copyFrom 149 = .ok (.invokestatic 52, 3) := by decide +kernel
theorem dX1_copyFrom_152 : decode cX1_copyFrom 152 = .ok (.aload_n 1, 1) := by decide +kernel
theorem dX1_copyFrom_153 : decode cX1_copyFrom 153 = .ok (.getfield 42, 3) := by decide +kernel
theorem dX1_copyFrom_156 : decode cX1_copyFrom 156 = .ok (.iconst 0, 1) := by decide +kernel
theorem dX1_copyFrom_157 : decode cX1_copyFrom 157 = .ok (.aload_n 0, 1) := by decide +kernel
theorem dX1_copyFrom_158 : decode cX1_copyFrom 158 = .ok (.getfield 42, 3) := by decide +kernel
theorem dX1_copyFrom_161 : decode cX1_copyFrom 161 = .ok (.iconst 0, 1) := by decide +kernel
theorem dX1_copyFrom_162 : decode cX1_copyFrom 162 = .ok (.bipush 24, 2) := by decide +kernel
theorem dX1_copyFrom_164 : decode cX1_copyFrom 164 = .ok (.invokestatic 52, 3) := by decide +kernel
theorem dX1_copyFrom_167 : decode cX1_copyFrom 167 = .ok (.aload_n 1, 1) := by decide +kernel
theorem dX1_copyFrom_168 : decode cX1_copyFrom 168 = .ok (.getfield 45, 3) := by decide +kernel
theorem dX1_copyFrom_171 : decode cX1_copyFrom 171 = .ok (.iconst 0, 1) := by decide +kernel
theorem dX1_copyFrom_172 : decode cX1_copyFrom 172 = .ok (.aload_n 0, 1) := by decide +kernel
theorem dX1_copyFrom_173 : decode cX1_copyFrom 173 = .ok (.getfield 45, 3) := by decide +kernel
theorem dX1_copyFrom_176 : decode cX1_copyFrom 176 = .ok (.iconst 0, 1) := by decide +kernel
theorem dX1_copyFrom_177 : decode cX1_copyFrom 177 = .ok (.bipush 24, 2) := by decide +kernel
theorem dX1_copyFrom_179 : decode cX1_copyFrom 179 = .ok (.invokestatic 52, 3) := by decide +kernel
theorem dX1_copyFrom_182 : decode cX1_copyFrom 182 = .ok (.return_, 1) := by decide +kernel
theorem dX1_isThere_0 : decode cX1_isThere 0 = .ok (.iload_n 1, 1) := by decide +kernel
theorem dX1_isThere_1 : decode cX1_isThere 1 = .ok (.ifCond .lt 26, 3) := by decide +kernel
theorem dX1_isThere_4 : decode cX1_isThere 4 = .ok (.iload_n 1, 1) := by decide +kernel
theorem dX1_isThere_5 : decode cX1_isThere 5 = .ok (.iconst 2, 1) := by decide +kernel
theorem dX1_isThere_6 : decode cX1_isThere 6 = .ok (.if_icmp .gt 21, 3) := by decide +kernel
theorem dX1_isThere_9 : decode cX1_isThere 9 = .ok (.iload_n 2, 1) := by decide +kernel
theorem dX1_isThere_10 : decode cX1_isThere 10 = .ok (.ifCond .lt 17, 3) := by decide +kernel
theorem dX1_isThere_13 : decode cX1_isThere 13 = .ok (.iload_n 2, 1) := by decide +kernel
theorem dX1_isThere_14 : decode cX1_isThere 14 = .ok (.aload_n 0, 1) := by decide +kernel
theorem dX1_isThere_15 : decode cX1_isThere 15 = .ok (.getfield 9, 3) := by decide +kernel
theorem dX1_isThere_18 : decode cX1_isThere 18 = .ok (.iload_n 1, 1) := by decide +kernel
theorem dX1_isThere_19 : decode cX1_isThere 19 = .ok (.iaload, 1) := by decide +kernel
theorem dX1_isThere_20 : decode cX1_isThere 20 = .ok (.if_icmp .ge 7, 3) := by decide +kernel
theorem dX1_isThere_23 : decode cX1_isThere 23 = .ok (.iconst 1, 1) := by decide +kernel
theorem dX1_isThere_24 : decode cX1_isThere 24 = .ok (.goto 4, 3) := by decide +kernel
theorem dX1_isThere_27 : decode cX1_isThere 27 = .ok (.iconst 0, 1) := by decide +kernel
theorem dX1_isThere_28 : decode cX1_isThere 28 = .ok (.ireturn, 1) := by decide +kernel
theorem dX1_isGroup_0 : decode cX1_isGroup 0 = .ok (.iload_n 1, 1) := by decide +kernel
theorem dX1_isGroup_1 : decode cX1_isGroup 1 = .ok (.ifCond .lt 17, 3) := by decide +kernel
theorem dX1_isGroup_4 : decode cX1_isGroup 4 = .ok (.iload_n 1, 1) := by decide +kernel
theorem dX1_isGroup_5 : decode cX1_isGroup 5 = .ok (.aload_n 0, 1) := by decide +kernel
theorem dX1_isGroup_6 : decode cX1_isGroup 6 = .ok (.getfield 9, 3) := by decide +kernel
theorem dX1_isGroup_9 : decode cX1_isGroup 9 = .ok (.iconst 2, 1) := by decide +kernel
theorem dX1_isGroup_10 : decode cX1_isGroup 10 = .ok (.iaload, 1) := by decide +kernel
theorem dX1_isGroup_11 : decode cX1_isGroup 11 = .ok (.if_icmp .ge 7, 3) := by decide +kernel
theorem dX1_isGroup_14 : decode cX1_isGroup 14 = .ok (.iconst 1, 1) := by decide +kernel
theorem dX1_isGroup_15 : decode cX1_isGroup 15 = .ok (.goto 4, 3) := by decide +kernel
theorem dX1_isGroup_18 : decode cX1_isGroup 18 = .ok (.iconst 0, 1) := by decide +kernel
theorem dX1_isGroup_19 : decode cX1_isGroup 19 = .ok (.ireturn, 1) := by decide +kernel
theorem dX1_isMember_0 : decode cX1_isMember 0 = .ok (.aload_n 0, 1) := by decide +kernel
theorem dX1_isMember_1 : decode cX1_isMember 1 = .ok (.iload_n 1, 1) := by decide +kernel
theorem dX1_isMember_2 : decode cX1_isMember 2 = .ok (.invokevirtual 58, 3) := by decide +kernel
theorem dX1_isMember_5 : decode cX1_isMember 5 = .ok (.ifCond .eq 35, 3) := by decide +kernel
theorem dX1_isMember_8 : decode cX1_isMember 8 = .ok (.iload_n 2, 1) := by decide +kernel
theorem dX1_isMember_9 : decode cX1_isMember 9 = .ok (.ifCond .lt 31, 3) := by decide +kernel
theorem dX1_isMember_12 : decode cX1_isMember 12 = .ok (.iload_n 2, 1) := by decide +kernel
theorem dX1_isMember_13 : decode cX1_isMember 13 = .ok (.aload_n 0, 1) := by decide +kernel
theorem dX1_isMember_14 : decode cX1_isMember 14 = .ok (.getfield 9, 3) := by decide +kernel
theorem dX1_isMember_17 : decode cX1_isMember 17 = .ok (.iconst 0, 1) := by decide +kernel
theorem dX1_isMember_18 : decode cX1_isMember 18 = .ok (.iaload, 1) := by decide +kernel
theorem dX1_isMember_19 : decode cX1_isMember 19 = .ok (.if_icmp .ge 21, 3) := by decide +kernel
theorem dX1_isMember_22 : decode cX1_isMember 22 = .ok (.aload_n 0, 1) := by decide +kernel
theorem dX1_isMember_23 : decode cX1_isMember 23 = .ok (.getfield 30, 3) := by decide +kernel
theorem dX1_isMember_26 : decode cX1_isMember 26 = .ok (.iload_n 1, 1) := by decide +kernel
theorem dX1_isMember_27 : decode cX1_isMember 27 = .ok (.iaload, 1) := by decide +kernel
theorem dX1_isMember_28 : decode cX1_isMember 28 = .ok (.iload_n 2, 1) := by decide +kernel
theorem dX1_isMember_29 : decode cX1_isMember 29 = .ok (.ishr, 1) := by decide +kernel
theorem dX1_isMember_30 : decode cX1_isMember 30 = .ok (.iconst 1, 1) := by decide +kernel
theorem dX1_isMember_31 : decode cX1_isMember 31 = .ok (.iand, 1) := by decide +kernel
theorem dX1_isMember_32 : decode cX1_isMember 32 = .ok (.iconst 1, 1) := by decide +kernel
theorem dX1_isMember_33 : decode cX1_isMember 33 = .ok (.if_icmp .ne 7, 3) := by decide +kernel
theorem dX1_isMember_36 : decode cX1_isMember 36 = .ok (.iconst 1, 1) := by decide +kernel
theorem dX1_isMember_37 : decode cX1_isMember 37 = .ok (.goto 4, 3) := by decide +kernel
theorem dX1_isMember_40 : decode cX1_isMember 40 = .ok (.iconst 0, 1) := by decide +kernel
theorem dX1_isMember_41 : decode cX1_isMember 41 = .ok (.ireturn, 1) := by decide +kernel
theorem dX1_areGates_0 : decode cX1_areGates 0 = .ok (.iload_n 1, 1) := by decide +kernel
theorem dX1_areGates_1 : decode cX1_areGates 1 = .ok (.ifCond .lt 19, 3) := by decide +kernel
theorem dX1_areGates_4 : decode cX1_areGates 4 = .ok (.iload_n 1, 1) := by decide +kernel
theorem dX1_areGates_5 : decode cX1_areGates 5 = .ok (.iconst 1, 1) := by decide +kernel
theorem dX1_areGates_6 : decode cX1_areGates 6 = .ok (.aload_n 0, 1) := by decide +kernel
theorem dX1_areGates_7 : decode cX1_areGates 7 = .ok (.getfield 9, 3) := by decide +kernel
theorem dX1_areGates_10 : decode cX1_areGates 10 = .ok (.iconst 0, 1) := by decide +kernel
theorem dX1_areGates_11 : decode cX1_areGates 11 = .ok (.iaload, 1) := by decide +kernel
theorem dX1_areGates_12 : decode cX1_areGates 12 = .ok (.ishl, 1) := by decide +kernel
theorem dX1_areGates_13 : decode cX1_areGates 13 = .ok (.if_icmp .ge 7, 3) := by decide +kernel
theorem dX1_areGates_16 : decode cX1_areGates 16 = .ok (.iconst 1, 1) := by decide +kernel
theorem dX1_areGates_17 : decode cX1_areGates 17 = .ok (.goto 4, 3) := by decide +kernel
theorem dX1_areGates_20 : decode cX1_areGates 20 = .ok (.iconst 0, 1) := by decide +kernel
theorem dX1_areGates_21 : decode cX1_areGates 21 = .ok (.ireturn, 1) := by decide +kernel
theorem dX1_areLinks_0 : decode cX1_areLinks 0 = .ok (.iload_n 1, 1) := by decide +kernel
theorem dX1_areLinks_1 : decode cX1_areLinks 1 = .ok (.ifCond .lt 19, 3) := by decide +kernel
theorem dX1_areLinks_4 : decode cX1_areLinks 4 = .ok (.iload_n 1, 1) := by decide +kernel
theorem dX1_areLinks_5 : decode cX1_areLinks 5 = .ok (.iconst 1, 1) := by decide +kernel
theorem dX1_areLinks_6 : decode cX1_areLinks 6 = .ok (.aload_n 0, 1) := by decide +kernel
theorem dX1_areLinks_7 : decode cX1_areLinks 7 = .ok (.getfield 9, 3) := by decide +kernel
theorem dX1_areLinks_10 : decode cX1_areLinks 10 = .ok (.iconst 1, 1) := by decide +kernel
theorem dX1_areLinks_11 : decode cX1_areLinks 11 = .ok (.iaload, 1) := by decide +kernel
theorem dX1_areLinks_12 : decode cX1_areLinks 12 = .ok (.ishl, 1) := by decide +kernel
theorem dX1_areLinks_13 : decode cX1_areLinks 13 = .ok (.if_icmp .ge 7, 3) := by decide +kernel
theorem dX1_areLinks_16 : decode cX1_areLinks 16 = .ok (.iconst 1, 1) := by decide +kernel
theorem dX1_areLinks_17 : decode cX1_areLinks 17 = .ok (.goto 4, 3) := by decide +kernel
theorem dX1_areLinks_20 : decode cX1_areLinks 20 = .ok (.iconst 0, 1) := by decide +kernel
theorem dX1_areLinks_21 : decode cX1_areLinks 21 = .ok (.ireturn, 1) := by decide +kernel
theorem dX1_countMembers_0 : decode cX1_countMembers 0 = .ok (.iconst 0, 1) := by decide +kernel
theorem dX1_countMembers_1 : decode cX1_countMembers 1 = .ok (.istore_n 1, 1) := by decide +kernel
theorem dX1_countMembers_2 : decode cX1_countMembers 2 = .ok (.iconst 0, 1) := by decide +kernel
theorem dX1_countMembers_3 : decode cX1_countMembers 3 = .ok (.istore_n 2, 1) := by decide +kernel
theorem dX1_countMembers_4 : decode cX1_countMembers 4 = .ok (.iload_n 2, 1) := by decide +kernel
theorem dX1_countMembers_5 : decode cX1_countMembers 5 = .ok (.iconst 5, 1) := by decide +kernel
theorem dX1_countMembers_6 : decode cX1_countMembers 6 = .ok (.if_icmp .ge 21, 3) := by decide +kernel
theorem dX1_countMembers_9 : decode cX1_countMembers 9 = .ok (.iload_n 1, 1) := by decide +kernel
theorem dX1_countMembers_10 : decode cX1_countMembers 10 = .ok (.aload_n 0, 1) := by decide +kernel
theorem dX1_countMembers_11 : decode cX1_countMembers 11 = .ok (.getfield 30, 3) := by decide +kernel
theorem dX1_countMembers_14 : decode cX1_countMembers 14 = .ok (.iload_n 2, 1) := by decide +kernel
theorem dX1_countMembers_15 : decode cX1_countMembers 15 = .ok (.iaload, 1) := by decide +kernel
theorem dX1_countMembers_16 : decode cX1_countMembers 16 = .ok (.invokestatic 62, 3) := by decide +kernel
theorem dX1_countMembers_19 : decode cX1_countMembers 19 = .ok (.iadd, 1) := by decide +kernel
theorem dX1_countMembers_20 : decode cX1_countMembers 20 = .ok (.istore_n 1, 1) := by decide +kernel
theorem dX1_countMembers_21 : decode cX1_countMembers 21 = .ok (.iinc 2 1, 3) := by decide +kernel
theorem dX1_countMembers_24 : decode cX1_countMembers 24 = .ok (.goto (-20), 3) := by decide +kernel
theorem dX1_countMembers_27 : decode cX1_countMembers 27 = .ok (.iload_n 1, 1) := by decide +kernel
theorem dX1_countMembers_28 : decode cX1_countMembers 28 = .ok (.ireturn, 1) := by decide +kernel
theorem dX1_find_0 : decode cX1_find 0 = .ok (.iconst 0, 1) := by decide +kernel
theorem dX1_find_1 : decode cX1_find 1 = .ok (.istore_n 3, 1) := by decide +kernel
theorem dX1_find_2 : decode cX1_find 2 = .ok (.iload_n 1, 1) := by decide +kernel
theorem dX1_find_3 : decode cX1_find 3 = .ok (.ifCond .lt 47, 3) := by decide +kernel
theorem dX1_find_6 : decode cX1_find 6 = .ok (.iload_n 1, 1) := by decide +kernel
theorem dX1_find_7 : decode cX1_find 7 = .ok (.iconst 2, 1) := by decide +kernel
theorem dX1_find_8 : decode cX1_find 8 = .ok (.if_icmp .gt 42, 3) := by decide +kernel
theorem dX1_find_11 : decode cX1_find 11 = .ok (.iload_n 3, 1) := by decide +kernel
theorem dX1_find_12 : decode cX1_find 12 = .ok (.aload_n 0, 1) := by decide +kernel
theorem dX1_find_13 : decode cX1_find 13 = .ok (.getfield 9, 3) := by decide +kernel
theorem dX1_find_16 : decode cX1_find 16 = .ok (.iload_n 1, 1) := by decide +kernel
theorem dX1_find_17 : decode cX1_find 17 = .ok (.iaload, 1) := by decide +kernel
theorem dX1_find_18 : decode cX1_find 18 = .ok (.if_icmp .ge 32, 3) := by decide +kernel
theorem dX1_find_21 : decode cX1_find 21 = .ok (.iload_n 3, 1) := by decide +kernel
theorem dX1_find_22 : decode cX1_find 22 = .ok (.bipush 8, 2) := by decide +kernel
theorem dX1_find_24 : decode cX1_find 24 = .ok (.if_icmp .ge 26, 3) := by decide +kernel
theorem dX1_find_27 : decode cX1_find 27 = .ok (.aload_n 0, 1) := by decide +kernel
theorem dX1_find_28 : decode cX1_find 28 = .ok (.getfield 15, 3) := by decide +kernel
theorem dX1_find_31 : decode cX1_find 31 = .ok (.iload_n 1, 1) := by decide +kernel
theorem dX1_find_32 : decode cX1_find 32 = .ok (.bipush 8, 2) := by decide +kernel
theorem dX1_find_34 : decode cX1_find 34 = .ok (.imul, 1) := by decide +kernel
theorem dX1_find_35 : decode cX1_find 35 = .ok (.iload_n 3, 1) := by decide +kernel
theorem dX1_find_36 : decode cX1_find 36 = .ok (.iadd, 1) := by decide +kernel
theorem dX1_find_37 : decode cX1_find 37 = .ok (.iaload, 1) := by decide +kernel
theorem dX1_find_38 : decode cX1_find 38 = .ok (.iload_n 2, 1) := by decide +kernel
theorem dX1_find_39 : decode cX1_find 39 = .ok (.if_icmp .ne 5, 3) := by decide +kernel
theorem dX1_find_42 : decode cX1_find 42 = .ok (.iload_n 3, 1) := by decide +kernel
theorem dX1_find_43 : decode cX1_find 43 = .ok (.ireturn, 1) := by decide +kernel
theorem dX1_find_44 : decode cX1_find 44 = .ok (.iinc 3 1, 3) := by decide +kernel
theorem dX1_find_47 : decode cX1_find 47 = .ok (.goto (-45), 3) := by decide +kernel
theorem dX1_find_50 : decode cX1_find 50 = .ok (.iconst (-1), 1) := by decide +kernel
theorem dX1_find_51 : decode cX1_find 51 = .ok (.ireturn, 1) := by decide +kernel
theorem dX1_isTold_0 : decode cX1_isTold 0 = .ok (.aload_n 0, 1) := by decide +kernel
theorem dX1_isTold_1 : decode cX1_isTold 1 = .ok (.iconst 0, 1) := by decide +kernel
theorem dX1_isTold_2 : decode cX1_isTold 2 = .ok (.iload_n 1, 1) := by decide +kernel
theorem dX1_isTold_3 : decode cX1_isTold 3 = .ok (.invokevirtual 68, 3) := by decide +kernel
theorem dX1_isTold_6 : decode cX1_isTold 6 = .ok (.iconst (-1), 1) := by decide +kernel
theorem dX1_isTold_7 : decode cX1_isTold 7 = .ok (.if_icmp .ne 23, 3) := by decide +kernel
theorem dX1_isTold_10 : decode cX1_isTold 10 = .ok (.aload_n 0, 1) := by decide +kernel
theorem dX1_isTold_11 : decode cX1_isTold 11 = .ok (.iconst 1, 1) := by decide +kernel
theorem dX1_isTold_12 : decode cX1_isTold 12 = .ok (.iload_n 1, 1) := by decide +kernel
theorem dX1_isTold_13 : decode cX1_isTold 13 = .ok (.invokevirtual 68, 3) := by decide +kernel
theorem dX1_isTold_16 : decode cX1_isTold 16 = .ok (.iconst (-1), 1) := by decide +kernel
theorem dX1_isTold_17 : decode cX1_isTold 17 = .ok (.if_icmp .ne 13, 3) := by decide +kernel
theorem dX1_isTold_20 : decode cX1_isTold 20 = .ok (.aload_n 0, 1) := by decide +kernel
theorem dX1_isTold_21 : decode cX1_isTold 21 = .ok (.iconst 2, 1) := by decide +kernel
theorem dX1_isTold_22 : decode cX1_isTold 22 = .ok (.iload_n 1, 1) := by decide +kernel
theorem dX1_isTold_23 : decode cX1_isTold 23 = .ok (.invokevirtual 68, 3) := by decide +kernel
theorem dX1_isTold_26 : decode cX1_isTold 26 = .ok (.iconst (-1), 1) := by decide +kernel
theorem dX1_isTold_27 : decode cX1_isTold 27 = .ok (.if_icmp .eq 7, 3) := by decide +kernel
theorem dX1_isTold_30 : decode cX1_isTold 30 = .ok (.iconst 1, 1) := by decide +kernel
theorem dX1_isTold_31 : decode cX1_isTold 31 = .ok (.goto 4, 3) := by decide +kernel
theorem dX1_isTold_34 : decode cX1_isTold 34 = .ok (.iconst 0, 1) := by decide +kernel
theorem dX1_isTold_35 : decode cX1_isTold 35 = .ok (.ireturn, 1) := by decide +kernel
theorem dX1_room_0 : decode cX1_room 0 = .ok (.iload_n 0, 1) := by decide +kernel
theorem dX1_room_1 : decode cX1_room 1 = .ok (.ifCond .ne 6, 3) := by decide +kernel
theorem dX1_room_4 : decode cX1_room 4 = .ok (.bipush 6, 2) := by decide +kernel
theorem dX1_room_6 : decode cX1_room 6 = .ok (.ireturn, 1) := by decide +kernel
theorem dX1_room_7 : decode cX1_room 7 = .ok (.iload_n 0, 1) := by decide +kernel
theorem dX1_room_8 : decode cX1_room 8 = .ok (.iconst 1, 1) := by decide +kernel
theorem dX1_room_9 : decode cX1_room 9 = .ok (.if_icmp .ne 8, 3) := by decide +kernel
theorem dX1_room_12 : decode cX1_room 12 = .ok (.bipush 8, 2) := by decide +kernel
theorem dX1_room_14 : decode cX1_room 14 = .ok (.goto 4, 3) := by decide +kernel
theorem dX1_room_17 : decode cX1_room 17 = .ok (.iconst 5, 1) := by decide +kernel
theorem dX1_room_18 : decode cX1_room 18 = .ok (.ireturn, 1) := by decide +kernel
theorem dX1_isTracked_0 : decode cX1_isTracked 0 = .ok (.iconst 0, 1) := by decide +kernel
theorem dX1_isTracked_1 : decode cX1_isTracked 1 = .ok (.istore_n 3, 1) := by decide +kernel
theorem dX1_isTracked_2 : decode cX1_isTracked 2 = .ok (.iload_n 3, 1) := by decide +kernel
theorem dX1_isTracked_3 : decode cX1_isTracked 3 = .ok (.aload_n 0, 1) := by decide +kernel
theorem dX1_isTracked_4 : decode cX1_isTracked 4 = .ok (.getfield 48, 3) := by decide +kernel
theorem dX1_isTracked_7 : decode cX1_isTracked 7 = .ok (.if_icmp .ge 37, 3) := by decide +kernel
theorem dX1_isTracked_10 : decode cX1_isTracked 10 = .ok (.iload_n 3, 1) := by decide +kernel
theorem dX1_isTracked_11 : decode cX1_isTracked 11 = .ok (.bipush 24, 2) := by decide +kernel
theorem dX1_isTracked_13 : decode cX1_isTracked 13 = .ok (.if_icmp .ge 31, 3) := by decide +kernel
theorem dX1_isTracked_16 : decode cX1_isTracked 16 = .ok (.aload_n 0, 1) := by decide +kernel
theorem dX1_isTracked_17 : decode cX1_isTracked 17 = .ok (.getfield 39, 3) := by decide +kernel
theorem dX1_isTracked_20 : decode cX1_isTracked 20 = .ok (.iload_n 3, 1) := by decide +kernel
theorem dX1_isTracked_21 : decode cX1_isTracked 21 = .ok (.iaload, 1) := by decide +kernel
theorem dX1_isTracked_22 : decode cX1_isTracked 22 = .ok (.iload_n 1, 1) := by decide +kernel
theorem dX1_isTracked_23 : decode cX1_isTracked 23 = .ok (.if_icmp .ne 15, 3) := by decide +kernel
theorem dX1_isTracked_26 : decode cX1_isTracked 26 = .ok (.aload_n 0, 1) := by decide +kernel
theorem dX1_isTracked_27 : decode cX1_isTracked 27 = .ok (.getfield 42, 3) := by decide +kernel
theorem dX1_isTracked_30 : decode cX1_isTracked 30 = .ok (.iload_n 3, 1) := by decide +kernel
theorem dX1_isTracked_31 : decode cX1_isTracked 31 = .ok (.iaload, 1) := by decide +kernel
theorem dX1_isTracked_32 : decode cX1_isTracked 32 = .ok (.iload_n 2, 1) := by decide +kernel
theorem dX1_isTracked_33 : decode cX1_isTracked 33 = .ok (.if_icmp .ne 5, 3) := by decide +kernel
theorem dX1_isTracked_36 : decode cX1_isTracked 36 = .ok (.iconst 1, 1) := by decide +kernel
theorem dX1_isTracked_37 : decode cX1_isTracked 37 = .ok (.ireturn, 1) := by decide +kernel
theorem dX1_isTracked_38 : decode cX1_isTracked 38 = .ok (.iinc 3 1, 3) := by decide +kernel
theorem dX1_isTracked_41 : decode cX1_isTracked 41 = .ok (.goto (-39), 3) := by decide +kernel
theorem dX1_isTracked_44 : decode cX1_isTracked 44 = .ok (.iconst 0, 1) := by decide +kernel
theorem dX1_isTracked_45 : decode cX1_isTracked 45 = .ok (.ireturn, 1) := by decide +kernel
theorem dX1_weightOf_0 : decode cX1_weightOf 0 = .ok (.iload_n 2, 1) := by decide +kernel
theorem dX1_weightOf_1 : decode cX1_weightOf 1 = .ok (.sipush 255, 3) := by decide +kernel
theorem dX1_weightOf_4 : decode cX1_weightOf 4 = .ok (.if_icmp .ne 7, 3) := by decide +kernel
theorem dX1_weightOf_7 : decode cX1_weightOf 7 = .ok (.sipush 255, 3) := by decide +kernel
theorem dX1_weightOf_10 : decode cX1_weightOf 10 = .ok (.ireturn, 1) := by decide +kernel
theorem dX1_weightOf_11 : decode cX1_weightOf 11 = .ok (.iload_n 2, 1) := by decide +kernel
theorem dX1_weightOf_12 : decode cX1_weightOf 12 = .ok (.istore 4, 2) := by decide +kernel
theorem dX1_weightOf_14 : decode cX1_weightOf 14 = .ok (.iconst 0, 1) := by decide +kernel
theorem dX1_weightOf_15 : decode cX1_weightOf 15 = .ok (.istore 5, 2) := by decide +kernel
theorem dX1_weightOf_17 : decode cX1_weightOf 17 = .ok (.iload 5, 2) := by decide +kernel
theorem dX1_weightOf_19 : decode cX1_weightOf 19 = .ok (.aload_n 0, 1) := by decide +kernel
theorem dX1_weightOf_20 : decode cX1_weightOf 20 = .ok (.getfield 48, 3) := by decide +kernel
theorem dX1_weightOf_23 : decode cX1_weightOf 23 = .ok (.if_icmp .ge 54, 3) := by decide +kernel
theorem dX1_weightOf_26 : decode cX1_weightOf 26 = .ok (.iload 5, 2) := by decide +kernel
theorem dX1_weightOf_28 : decode cX1_weightOf 28 = .ok (.bipush 24, 2) := by decide +kernel
theorem dX1_weightOf_30 : decode cX1_weightOf 30 = .ok (.if_icmp .ge 47, 3) := by decide +kernel
theorem dX1_weightOf_33 : decode cX1_weightOf 33 = .ok (.aload_n 0, 1) := by decide +kernel
theorem dX1_weightOf_34 : decode cX1_weightOf 34 = .ok (.getfield 39, 3) := by decide +kernel
theorem dX1_weightOf_37 : decode cX1_weightOf 37 = .ok (.iload 5, 2) := by decide +kernel
theorem dX1_weightOf_39 : decode cX1_weightOf 39 = .ok (.iaload, 1) := by decide +kernel
theorem dX1_weightOf_40 : decode cX1_weightOf 40 = .ok (.iload_n 1, 1) := by decide +kernel
theorem dX1_weightOf_41 : decode cX1_weightOf 41 = .ok (.if_icmp .ne 30, 3) := by decide +kernel
theorem dX1_weightOf_44 : decode cX1_weightOf 44 = .ok (.iload_n 3, 1) := by decide +kernel
theorem dX1_weightOf_45 : decode cX1_weightOf 45 = .ok (.aload_n 0, 1) := by decide +kernel
theorem dX1_weightOf_46 : decode cX1_weightOf 46 = .ok (.getfield 42, 3) := by decide +kernel
theorem dX1_weightOf_49 : decode cX1_weightOf 49 = .ok (.iload 5, 2) := by decide +kernel
theorem dX1_weightOf_51 : decode cX1_weightOf 51 = .ok (.iaload, 1) := by decide +kernel
theorem dX1_weightOf_52 : decode cX1_weightOf 52 = .ok (.ishr, 1) := by decide +kernel
theorem dX1_weightOf_53 : decode cX1_weightOf 53 = .ok (.iconst 1, 1) := by decide +kernel
theorem dX1_weightOf_54 : decode cX1_weightOf 54 = .ok (.iand, 1) := by decide +kernel
theorem dX1_weightOf_55 : decode cX1_weightOf 55 = .ok (.iconst 1, 1) := by decide +kernel
theorem dX1_weightOf_56 : decode cX1_weightOf 56 = .ok (.if_icmp .ne 15, 3) := by decide +kernel
theorem dX1_weightOf_59 : decode cX1_weightOf 59 = .ok (.iload 4, 2) := by decide +kernel
theorem dX1_weightOf_61 : decode cX1_weightOf 61 = .ok (.aload_n 0, 1) := by decide +kernel
theorem dX1_weightOf_62 : decode cX1_weightOf 62 = .ok (.getfield 45, 3) := by decide +kernel
theorem dX1_weightOf_65 : decode cX1_weightOf 65 = .ok (.iload 5, 2) := by decide +kernel
theorem dX1_weightOf_67 : decode cX1_weightOf 67 = .ok (.iaload, 1) := by decide +kernel
theorem dX1_weightOf_68 : decode cX1_weightOf 68 = .ok (.isub, 1) := by decide +kernel
theorem dX1_weightOf_69 : decode cX1_weightOf 69 = .ok (.istore 4, 2) := by decide +kernel
theorem dX1_weightOf_71 : decode cX1_weightOf 71 = .ok (.iinc 5 1, 3) := by decide +kernel
theorem dX1_weightOf_74 : decode cX1_weightOf 74 = .ok (.goto (-57), 3) := by decide +kernel
theorem dX1_weightOf_77 : decode cX1_weightOf 77 = .ok (.iload 4, 2) := by decide +kernel
theorem dX1_weightOf_79 : decode cX1_weightOf 79 = .ok (.iconst 1, 1) := by decide +kernel
theorem dX1_weightOf_80 : decode cX1_weightOf 80 = .ok (.if_icmp .ge 7, 3) := by decide +kernel
theorem dX1_weightOf_83 : decode cX1_weightOf 83 = .ok (.iconst 1, 1) := by decide +kernel
theorem dX1_weightOf_84 : decode cX1_weightOf 84 = .ok (.goto 5, 3) := by decide +kernel
theorem dX1_weightOf_87 : decode cX1_weightOf 87 = .ok (.iload 4, 2) := by decide +kernel
theorem dX1_weightOf_89 : decode cX1_weightOf 89 = .ok (.ireturn, 1) := by decide +kernel
theorem dX1_patience_0 : decode cX1_patience 0 = .ok (.iconst 3, 1) := by decide +kernel
theorem dX1_patience_1 : decode cX1_patience 1 = .ok (.aload_n 0, 1) := by decide +kernel
theorem dX1_patience_2 : decode cX1_patience 2 = .ok (.getfield 18, 3) := by decide +kernel
theorem dX1_patience_5 : decode cX1_patience 5 = .ok (.iload_n 1, 1) := by decide +kernel
theorem dX1_patience_6 : decode cX1_patience 6 = .ok (.iaload, 1) := by decide +kernel
theorem dX1_patience_7 : decode cX1_patience 7 = .ok (.imul, 1) := by decide +kernel
theorem dX1_patience_8 : decode cX1_patience 8 = .ok (.iload_n 2, 1) := by decide +kernel
theorem dX1_patience_9 : decode cX1_patience 9 = .ok (.iadd, 1) := by decide +kernel
theorem dX1_patience_10 : decode cX1_patience 10 = .ok (.ireturn, 1) := by decide +kernel
