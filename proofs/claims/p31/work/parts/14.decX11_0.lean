theorem dX11_feed_0 : decode cX11_feed 0 = .ok (.aload_n 0, 1) := by decide +kernel
theorem dX11_feed_1 : decode cX11_feed 1 = .ok (.getfield 10, 3) := by decide +kernel
theorem dX11_feed_4 : decode cX11_feed 4 = .ok (.getfield 78, 3) := by decide +kernel
theorem dX11_feed_7 : decode cX11_feed 7 = .ok (.bipush 20, 2) := by decide +kernel
theorem dX11_feed_9 : decode cX11_feed 9 = .ok (.iadd, 1) := by decide +kernel
theorem dX11_feed_10 : decode cX11_feed 10 = .ok (.sipush 1500, 3) := by decide +kernel
theorem dX11_feed_13 : decode cX11_feed 13 = .ok (.if_icmp .le 5, 3) := by decide +kernel
theorem dX11_feed_16 : decode cX11_feed 16 = .ok (.iconst (-1), 1) := by decide +kernel
theorem dX11_feed_17 : decode cX11_feed 17 = .ok (.ireturn, 1) := by decide +kernel
theorem dX11_feed_18 : decode cX11_feed 18 = .ok (.aload_n 0, 1) := by decide +kernel
theorem dX11_feed_19 : decode cX11_feed 19 = .ok (.getfield 10, 3) := by decide +kernel
theorem dX11_feed_22 : decode cX11_feed 22 = .ok (.iload_n 1, 1) := by decide +kernel
theorem dX11_feed_23 : decode cX11_feed 23 = .ok (.invokevirtual 82, 3) := by decide +kernel
theorem dX11_feed_26 : decode cX11_feed 26 = .ok (.aload_n 0, 1) := by decide +kernel
theorem dX11_feed_27 : decode cX11_feed 27 = .ok (.getfield 10, 3) := by decide +kernel
theorem dX11_feed_30 : decode cX11_feed 30 = .ok (.iload_n 2, 1) := by decide +kernel
theorem dX11_feed_31 : decode cX11_feed 31 = .ok (.invokevirtual 82, 3) := by decide +kernel
theorem dX11_feed_34 : decode cX11_feed 34 = .ok (.aload_n 0, 1) := by decide +kernel
theorem dX11_feed_35 : decode cX11_feed 35 = .ok (.getfield 10, 3) := by decide +kernel
theorem dX11_feed_38 : decode cX11_feed 38 = .ok (.iload_n 3, 1) := by decide +kernel
theorem dX11_feed_39 : decode cX11_feed 39 = .ok (.invokevirtual 82, 3) := by decide +kernel
theorem dX11_feed_42 : decode cX11_feed 42 = .ok (.aload_n 0, 1) := by decide +kernel
theorem dX11_feed_43 : decode cX11_feed 43 = .ok (.getfield 10, 3) := by decide +kernel
theorem dX11_feed_46 : decode cX11_feed 46 = .ok (.iload 4, 2) := by decide +kernel
theorem dX11_feed_48 : decode cX11_feed 48 = .ok (.invokevirtual 82, 3) := by decide +kernel
theorem dX11_feed_51 : decode cX11_feed 51 = .ok (.aload_n 0, 1) := by decide +kernel
theorem dX11_feed_52 : decode cX11_feed 52 = .ok (.getfield 10, 3) := by decide +kernel
theorem dX11_feed_55 : decode cX11_feed 55 = .ok (.iload 5, 2) := by decide +kernel
theorem dX11_feed_57 : decode cX11_feed 57 = .ok (.invokevirtual 82, 3) := by decide +kernel
theorem dX11_feed_60 : decode cX11_feed 60 = .ok (.aload_n 0, 1) := by decide +kernel
theorem dX11_feed_61 : decode cX11_feed 61 = .ok (.getfield 10, 3) := by decide +kernel
theorem dX11_feed_64 : decode cX11_feed 64 = .ok (.getfield 78, 3) := by decide +kernel
theorem dX11_feed_67 : decode cX11_feed 67 = .ok (.ireturn, 1) := by decide +kernel
theorem dX11_end_0 : decode cX11_end 0 = .ok (.iload_n 1, 1) := by decide +kernel
theorem dX11_end_1 : decode cX11_end 1 = .ok (.ifCond .lt 14, 3) := by decide +kernel
theorem dX11_end_4 : decode cX11_end 4 = .ok (.iload_n 1, 1) := by decide +kernel
theorem dX11_end_5 : decode cX11_end 5 = .ok (.aload_n 0, 1) := by decide +kernel
theorem dX11_end_6 : decode cX11_end 6 = .ok (.getfield 10, 3) := by decide +kernel
theorem dX11_end_9 : decode cX11_end 9 = .ok (.getfield 78, 3) := by decide +kernel
theorem dX11_end_12 : decode cX11_end 12 = .ok (.if_icmp .le 5, 3) := by decide +kernel
theorem dX11_end_15 : decode cX11_end 15 = .ok (.iconst 0, 1) := by decide +kernel
theorem dX11_end_16 : decode cX11_end 16 = .ok (.ireturn, 1) := by decide +kernel
theorem dX11_end_17 : decode cX11_end 17 = .ok (.aload_n 0, 1) := by decide +kernel
theorem dX11_end_18 : decode cX11_end 18 = .ok (.getfield 10, 3) := by decide +kernel
theorem dX11_end_21 : decode cX11_end 21 = .ok (.iload_n 1, 1) := by decide +kernel
theorem dX11_end_22 : decode cX11_end 22 = .ok (.putfield 78, 3) := by decide +kernel
theorem dX11_end_25 : decode cX11_end 25 = .ok (.iconst 1, 1) := by decide +kernel
theorem dX11_end_26 : decode cX11_end 26 = .ok (.ireturn, 1) := by decide +kernel
theorem dX11_net_0 : decode cX11_net 0 = .ok (.aload_n 0, 1) := by decide +kernel
theorem dX11_net_1 : decode cX11_net 1 = .ok (.getfield 28, 3) := by decide +kernel
theorem dX11_net_4 : decode cX11_net 4 = .ok (.invokevirtual 86, 3) := by decide +kernel
theorem dX11_net_7 : decode cX11_net 7 = .ok (.istore_n 1, 1) := by decide +kernel
theorem dX11_net_8 : decode cX11_net 8 = .ok (.aload_n 0, 1) := by decide +kernel
theorem dX11_net_9 : decode cX11_net 9 = .ok (.getfield 10, 3) := by decide +kernel
theorem dX11_net_12 : decode cX11_net 12 = .ok (.iconst 0, 1) := by decide +kernel
theorem dX11_net_13 : decode cX11_net 13 = .ok (.putfield 78, 3) := by decide +kernel
theorem dX11_net_16 : decode cX11_net 16 = .ok (.iload_n 1, 1) := by decide +kernel
theorem dX11_net_17 : decode cX11_net 17 = .ok (.ifCond .ne 5, 3) := by decide +kernel
theorem dX11_net_20 : decode cX11_net 20 = .ok (.iconst (-1), 1) := by decide +kernel
theorem dX11_net_21 : decode cX11_net 21 = .ok (.ireturn, 1) := by decide +kernel
theorem dX11_net_22 : decode cX11_net 22 = .ok (.aload_n 0, 1) := by decide +kernel
theorem dX11_net_23 : decode cX11_net 23 = .ok (.getfield 19, 3) := by decide +kernel
theorem dX11_net_26 : decode cX11_net 26 = .ok (.aload_n 0, 1) := by decide +kernel
theorem dX11_net_27 : decode cX11_net 27 = .ok (.getfield 28, 3) := by decide +kernel
theorem dX11_net_30 : decode cX11_net 30 = .ok (.getfield 90, 3) := by decide +kernel
theorem dX11_net_33 : decode cX11_net 33 = .ok (.invokevirtual 93, 3) := by decide +kernel
theorem dX11_net_36 : decode cX11_net 36 = .ok (.aload_n 0, 1) := by decide +kernel
theorem dX11_net_37 : decode cX11_net 37 = .ok (.getfield 19, 3) := by decide +kernel
theorem dX11_net_40 : decode cX11_net 40 = .ok (.iconst 1, 1) := by decide +kernel
theorem dX11_net_41 : decode cX11_net 41 = .ok (.putfield 97, 3) := by decide +kernel
theorem dX11_net_44 : decode cX11_net 44 = .ok (.aload_n 0, 1) := by decide +kernel
theorem dX11_net_45 : decode cX11_net 45 = .ok (.getfield 60, 3) := by decide +kernel
theorem dX11_net_48 : decode cX11_net 48 = .ok (.invokevirtual 101, 3) := by decide +kernel
theorem dX11_net_51 : decode cX11_net 51 = .ok (.aload_n 0, 1) := by decide +kernel
theorem dX11_net_52 : decode cX11_net 52 = .ok (.getfield 53, 3) := by decide +kernel
theorem dX11_net_55 : decode cX11_net 55 = .ok (.invokevirtual 104, 3) := by decide +kernel
theorem dX11_net_58 : decode cX11_net 58 = .ok (.aload_n 0, 1) := by decide +kernel
theorem dX11_net_59 : decode cX11_net 59 = .ok (.getfield 19, 3) := by decide +kernel
theorem dX11_net_62 : decode cX11_net 62 = .ok (.getfield 107, 3) := by decide +kernel
theorem dX11_net_65 : decode cX11_net 65 = .ok (.iconst 2, 1) := by decide +kernel
theorem dX11_net_66 : decode cX11_net 66 = .ok (.iaload, 1) := by decide +kernel
theorem dX11_net_67 : decode cX11_net 67 = .ok (.ireturn, 1) := by decide +kernel
theorem dX11_plan_0 : decode cX11_plan 0 = .ok (.aload_n 0, 1) := by decide +kernel
theorem dX11_plan_1 : decode cX11_plan 1 = .ok (.getfield 19, 3) := by decide +kernel
theorem dX11_plan_4 : decode cX11_plan 4 = .ok (.getfield 97, 3) := by decide +kernel
theorem dX11_plan_7 : decode cX11_plan 7 = .ok (.ifCond .ne 14, 3) := by decide +kernel
theorem dX11_plan_10 : decode cX11_plan 10 = .ok (.aload_n 0, 1) := by decide +kernel
theorem dX11_plan_11 : decode cX11_plan 11 = .ok (.getfield 10, 3) := by decide +kernel
theorem dX11_plan_14 : decode cX11_plan 14 = .ok (.iconst 0, 1) := by decide +kernel
theorem dX11_plan_15 : decode cX11_plan 15 = .ok (.putfield 78, 3) := by decide +kernel
theorem dX11_plan_18 : decode cX11_plan 18 = .ok (.bipush (-2), 2) := by decide +kernel
theorem dX11_plan_20 : decode cX11_plan 20 = .ok (.ireturn, 1) := by decide +kernel
theorem dX11_plan_21 : decode cX11_plan 21 = .ok (.aload_n 0, 1) := by decide +kernel
theorem dX11_plan_22 : decode cX11_plan 22 = .ok (.getfield 37, 3) := by decide +kernel
theorem dX11_plan_25 : decode cX11_plan 25 = .ok (.invokevirtual 111, 3) := by decide +kernel
theorem dX11_plan_28 : decode cX11_plan 28 = .ok (.istore_n 1, 1) := by decide +kernel
theorem dX11_plan_29 : decode cX11_plan 29 = .ok (.aload_n 0, 1) := by decide +kernel
theorem dX11_plan_30 : decode cX11_plan 30 = .ok (.getfield 10, 3) := by decide +kernel
theorem dX11_plan_33 : decode cX11_plan 33 = .ok (.iconst 0, 1) := by decide +kernel
theorem dX11_plan_34 : decode cX11_plan 34 = .ok (.putfield 78, 3) := by decide +kernel
theorem dX11_plan_37 : decode cX11_plan 37 = .ok (.iload_n 1, 1) := by decide +kernel
theorem dX11_plan_38 : decode cX11_plan 38 = .ok (.ifCond .ne 5, 3) := by decide +kernel
theorem dX11_plan_41 : decode cX11_plan 41 = .ok (.iconst (-1), 1) := by decide +kernel
theorem dX11_plan_42 : decode cX11_plan 42 = .ok (.ireturn, 1) := by decide +kernel
theorem dX11_plan_43 : decode cX11_plan 43 = .ok (.aload_n 0, 1) := by decide +kernel
theorem dX11_plan_44 : decode cX11_plan 44 = .ok (.getfield 60, 3) := by decide +kernel
theorem dX11_plan_47 : decode cX11_plan 47 = .ok (.aload_n 0, 1) := by decide +kernel
theorem dX11_plan_48 : decode cX11_plan 48 = .ok (.getfield 44, 3) := by decide +kernel
theorem dX11_plan_51 : decode cX11_plan 51 = .ok (.invokevirtual 112, 3) := by decide +kernel
theorem dX11_plan_54 : decode cX11_plan 54 = .ok (.aload_n 0, 1) := by decide +kernel
theorem dX11_plan_55 : decode cX11_plan 55 = .ok (.getfield 44, 3) := by decide +kernel
theorem dX11_plan_58 : decode cX11_plan 58 = .ok (.getfield 116, 3) := by decide +kernel
theorem dX11_plan_61 : decode cX11_plan 61 = .ok (.aload_n 0, 1) := by decide +kernel
theorem dX11_plan_62 : decode cX11_plan 62 = .ok (.getfield 37, 3) := by decide +kernel
theorem dX11_plan_65 : decode cX11_plan 65 = .ok (.getfield 120, 3) := by decide +kernel
theorem dX11_plan_68 : decode cX11_plan 68 = .ok (.invokevirtual 122, 3) := by decide +kernel
theorem dX11_plan_71 : decode cX11_plan 71 = .ok (.aload_n 0, 1) := by decide +kernel
theorem dX11_plan_72 : decode cX11_plan 72 = .ok (.getfield 44, 3) := by decide +kernel
theorem dX11_plan_75 : decode cX11_plan 75 = .ok (.aload_n 0, 1) := by decide +kernel
theorem dX11_plan_76 : decode cX11_plan 76 = .ok (.getfield 44, 3) := by decide +kernel
theorem dX11_plan_79 : decode cX11_plan 79 = .ok (.getfield 116, 3) := by decide +kernel
theorem dX11_plan_82 : decode cX11_plan 82 = .ok (.aload_n 0, 1) := by decide +kernel
theorem dX11_plan_83 : decode cX11_plan 83 = .ok (.getfield 44, 3) := by decide +kernel
theorem dX11_plan_86 : decode cX11_plan 86 = .ok (.getfield 127, 3) := by decide +kernel
theorem dX11_plan_89 : decode cX11_plan 89 = .ok (.invokevirtual 130, 3) := by decide +kernel
theorem dX11_plan_92 : decode cX11_plan 92 = .ok (.putfield 134, 3) := by decide +kernel
theorem dX11_plan_95 : decode cX11_plan 95 = .ok (.aload_n 0, 1) := by decide +kernel
theorem dX11_plan_96 : decode cX11_plan 96 = .ok (.getfield 44, 3) := by decide +kernel
theorem dX11_plan_99 : decode cX11_plan 99 = .ok (.getfield 116, 3) := by decide +kernel
theorem dX11_plan_102 : decode cX11_plan 102 = .ok (.getfield 137, 3) := by decide +kernel
theorem dX11_plan_105 : decode cX11_plan 105 = .ok (.ireturn, 1) := by decide +kernel
theorem dX11_fault_0 : decode cX11_fault 0 = .ok (.iload_n 1, 1) := by decide +kernel
theorem dX11_fault_1 : decode cX11_fault 1 = .ok (.ifCond .ne 11, 3) := by decide +kernel
theorem dX11_fault_4 : decode cX11_fault 4 = .ok (.aload_n 0, 1) := by decide +kernel
theorem dX11_fault_5 : decode cX11_fault 5 = .ok (.getfield 10, 3) := by decide +kernel
theorem dX11_fault_8 : decode cX11_fault 8 = .ok (.getfield 140, 3) := by decide +kernel
theorem dX11_fault_11 : decode cX11_fault 11 = .ok (.ireturn, 1) := by decide +kernel
theorem dX11_fault_12 : decode cX11_fault 12 = .ok (.iload_n 1, 1) := by decide +kernel
theorem dX11_fault_13 : decode cX11_fault 13 = .ok (.iconst 1, 1) := by decide +kernel
theorem dX11_fault_14 : decode cX11_fault 14 = .ok (.if_icmp .ne 13, 3) := by decide +kernel
theorem dX11_fault_17 : decode cX11_fault 17 = .ok (.aload_n 0, 1) := by decide +kernel
theorem dX11_fault_18 : decode cX11_fault 18 = .ok (.getfield 10, 3) := by decide +kernel
theorem dX11_fault_21 : decode cX11_fault 21 = .ok (.getfield 143, 3) := by decide +kernel
theorem dX11_fault_24 : decode cX11_fault 24 = .ok (.goto 4, 3) := by decide +kernel
theorem dX11_fault_27 : decode cX11_fault 27 = .ok (.iconst (-1), 1) := by decide +kernel
theorem dX11_fault_28 : decode cX11_fault 28 = .ok (.ireturn, 1) := by decide +kernel
theorem dX11_has_0 : decode cX11_has 0 = .ok (.aload_n 0, 1) := by decide +kernel
theorem dX11_has_1 : decode cX11_has 1 = .ok (.getfield 19, 3) := by decide +kernel
theorem dX11_has_4 : decode cX11_has 4 = .ok (.getfield 97, 3) := by decide +kernel
theorem dX11_has_7 : decode cX11_has 7 = .ok (.ifCond .ne 5, 3) := by decide +kernel
theorem dX11_has_10 : decode cX11_has 10 = .ok (.iconst (-1), 1) := by decide +kernel
theorem dX11_has_11 : decode cX11_has 11 = .ok (.ireturn, 1) := by decide +kernel
theorem dX11_has_12 : decode cX11_has 12 = .ok (.iload_n 1, 1) := by decide +kernel
theorem dX11_has_13 : decode cX11_has 13 = .ok (.tableswitch 219 0 15 #[79, 89, 99, 109, 117, 125, 133, 141, 149, 157, 165, 173, 184, 195, 203, 211], 79) := by decide +kernel
theorem dX11_has_92 : decode cX11_has 92 = .ok (.aload_n 0, 1) := by decide +kernel
theorem dX11_has_93 : decode cX11_has 93 = .ok (.getfield 19, 3) := by decide +kernel
theorem dX11_has_96 : decode cX11_has 96 = .ok (.getfield 107, 3) := by decide +kernel
theorem dX11_has_99 : decode cX11_has 99 = .ok (.iconst 0, 1) := by decide +kernel
theorem dX11_has_100 : decode cX11_has 100 = .ok (.iaload, 1) := by decide +kernel
theorem dX11_has_101 : decode cX11_has 101 = .ok (.ireturn, 1) := by decide +kernel
theorem dX11_has_102 : decode cX11_has 102 = .ok (.aload_n 0, 1) := by decide +kernel
theorem dX11_has_103 : decode cX11_has 103 = .ok (.getfield 19, 3) := by decide +kernel
theorem dX11_has_106 : decode cX11_has 106 = .ok (.getfield 107, 3) := by decide +kernel
theorem dX11_has_109 : decode cX11_has 109 = .ok (.iconst 1, 1) := by decide +kernel
theorem dX11_has_110 : decode cX11_has 110 = .ok (.iaload, 1) := by decide +kernel
theorem dX11_has_111 : decode cX11_has 111 = .ok (.ireturn, 1) := by decide +kernel
theorem dX11_has_112 : decode cX11_has 112 = .ok (.aload_n 0, 1) := by decide +kernel
theorem dX11_has_113 : decode cX11_has 113 = .ok (.getfield 19, 3) := by decide +kernel
theorem dX11_has_116 : decode cX11_has 116 = .ok (.getfield 107, 3) := by decide +kernel
theorem dX11_has_119 : decode cX11_has 119 = .ok (.iconst 2, 1) := by decide +kernel
theorem dX11_has_120 : decode cX11_has 120 = .ok (.iaload, 1) := by decide +kernel
theorem dX11_has_121 : decode cX11_has 121 = .ok (.ireturn, 1) := by decide +kernel
theorem dX11_has_122 : decode cX11_has 122 = .ok (.aload_n 0, 1) := by decide +kernel
theorem dX11_has_123 : decode cX11_has 123 = .ok (.getfield 19, 3) := by decide +kernel
theorem dX11_has_126 : decode cX11_has 126 = .ok (.invokevirtual 146, 3) := by decide +kernel
theorem dX11_has_129 : decode cX11_has 129 = .ok (.ireturn, 1) := by decide +kernel
theorem dX11_has_130 : decode cX11_has 130 = .ok (.aload_n 0, 1) := by decide +kernel
theorem dX11_has_131 : decode cX11_has 131 = .ok (.getfield 19, 3) := by decide +kernel
theorem dX11_has_134 : decode cX11_has 134 = .ok (.getfield 150, 3) := by decide +kernel
theorem dX11_has_137 : decode cX11_has 137 = .ok (.ireturn, 1) := by decide +kernel
theorem dX11_has_138 : decode cX11_has 138 = .ok (.aload_n 0, 1) := by decide +kernel
theorem dX11_has_139 : decode cX11_has 139 = .ok (.getfield 44, 3) := by decide +kernel
theorem dX11_has_142 : decode cX11_has 142 = .ok (.getfield 127, 3) := by decide +kernel
theorem dX11_has_145 : decode cX11_has 145 = .ok (.ireturn, 1) := by decide +kernel
theorem dX11_has_146 : decode cX11_has 146 = .ok (.aload_n 0, 1) := by decide +kernel
theorem dX11_has_147 : decode cX11_has 147 = .ok (.getfield 44, 3) := by decide +kernel
theorem dX11_has_150 : decode cX11_has 150 = .ok (.getfield 153, 3) := by decide +kernel
theorem dX11_has_153 : decode cX11_has 153 = .ok (.ireturn, 1) := by decide +kernel
theorem dX11_has_154 : decode cX11_has 154 = .ok (.aload_n 0, 1) := by decide +kernel
theorem dX11_has_155 : decode cX11_has 155 = .ok (.getfield 44, 3) := by decide +kernel
theorem dX11_has_158 : decode cX11_has 158 = .ok (.getfield 156, 3) := by decide +kernel
theorem dX11_has_161 : decode cX11_has 161 = .ok (.ireturn, 1) := by decide +kernel
theorem dX11_has_162 : decode cX11_has 162 = .ok (.aload_n 0, 1) := by decide +kernel
theorem dX11_has_163 : decode cX11_has 163 = .ok (.getfield 44, 3) := by decide +kernel
theorem dX11_has_166 : decode cX11_has 166 = .ok (.getfield 159, 3) := by decide +kernel
theorem dX11_has_169 : decode cX11_has 169 = .ok (.ireturn, 1) := by decide +kernel
theorem dX11_has_170 : decode cX11_has 170 = .ok (.aload_n 0, 1) := by decide +kernel
theorem dX11_has_171 : decode cX11_has 171 = .ok (.getfield 44, 3) := by decide +kernel
theorem dX11_has_174 : decode cX11_has 174 = .ok (.getfield 162, 3) := by decide +kernel
theorem dX11_has_177 : decode cX11_has 177 = .ok (.ireturn, 1) := by decide +kernel
theorem dX11_has_178 : decode cX11_has 178 = .ok (.aload_n 0, 1) := by decide +kernel
theorem dX11_has_179 : decode cX11_has 179 = .ok (.getfield 44, 3) := by decide +kernel
theorem dX11_has_182 : decode cX11_has 182 = .ok (.getfield 165, 3) := by decide +kernel
theorem dX11_has_185 : decode cX11_has 185 = .ok (.ireturn, 1) := by decide +kernel
theorem dX11_has_186 : decode cX11_has 186 = .ok (.aload_n 0, 1) := by decide +kernel
theorem dX11_has_187 : decode cX11_has 187 = .ok (.getfield 44, 3) := by decide +kernel
theorem dX11_has_190 : decode cX11_has 190 = .ok (.getfield 116, 3) := by decide +kernel
theorem dX11_has_193 : decode cX11_has 193 = .ok (.getfield 137, 3) := by decide +kernel
theorem dX11_has_196 : decode cX11_has 196 = .ok (.ireturn, 1) := by decide +kernel
theorem dX11_has_197 : decode cX11_has 197 = .ok (.aload_n 0, 1) := by decide +kernel
theorem dX11_has_198 : decode cX11_has 198 = .ok (.getfield 44, 3) := by decide +kernel
theorem dX11_has_201 : decode cX11_has 201 = .ok (.getfield 168, 3) := by decide +kernel
theorem dX11_has_204 : decode cX11_has 204 = .ok (.getfield 172, 3) := by decide +kernel
theorem dX11_has_207 : decode cX11_has 207 = .ok (.ireturn, 1) := by decide +kernel
theorem dX11_has_208 : decode cX11_has 208 = .ok (.aload_n 0, 1) := by decide +kernel
theorem dX11_has_209 : decode cX11_has 209 = .ok (.getfield 60, 3) := by decide +kernel
theorem dX11_has_212 : decode cX11_has 212 = .ok (.getfield 175, 3) := by decide +kernel
theorem dX11_has_215 : decode cX11_has 215 = .ok (.ireturn, 1) := by decide +kernel
theorem dX11_has_216 : decode cX11_has 216 = .ok (.aload_n 0, 1) := by decide +kernel
theorem dX11_has_217 : decode cX11_has 217 = .ok (.getfield 44, 3) := by decide +kernel
theorem dX11_has_220 : decode cX11_has 220 = .ok (.getfield 176, 3) := by decide +kernel
theorem dX11_has_223 : decode cX11_has 223 = .ok (.ireturn, 1) := by decide +kernel
theorem dX11_has_224 : decode cX11_has 224 = .ok (.aload_n 0, 1) := by decide +kernel
theorem dX11_has_225 : decode cX11_has 225 = .ok (.getfield 44, 3) := by decide +kernel
theorem dX11_has_228 : decode cX11_has 228 = .ok (.getfield 179, 3) := by decide +kernel
theorem dX11_has_231 : decode cX11_has 231 = .ok (.ireturn, 1) := by decide +kernel
theorem dX11_has_232 : decode cX11_has 232 = .ok (.iconst (-1), 1) := by decide +kernel
theorem dX11_has_233 : decode cX11_has 233 = .ok (.ireturn, 1) := by decide +kernel
theorem dX11_group_0 : decode cX11_group 0 = .ok (.aload_n 0, 1) := by decide +kernel
theorem dX11_group_1 : decode cX11_group 1 = .ok (.getfield 19, 3) := by decide +kernel
theorem dX11_group_4 : decode cX11_group 4 = .ok (.iload_n 1, 1) := by decide +kernel
theorem dX11_group_5 : decode cX11_group 5 = .ok (.invokevirtual 182, 3) := by decide +kernel
theorem dX11_group_8 : decode cX11_group 8 = .ok (.ifCond .ne 5, 3) := by decide +kernel
theorem dX11_group_11 : decode cX11_group 11 = .ok (.iconst (-1), 1) := by decide +kernel
theorem dX11_group_12 : decode cX11_group 12 = .ok (.ireturn, 1) := by decide +kernel
theorem dX11_group_13 : decode cX11_group 13 = .ok (.iload_n 2, 1) := by decide +kernel
theorem dX11_group_14 : decode cX11_group 14 = .ok (.tableswitch 140 0 8 #[50, 60, 70, 80, 90, 100, 110, 120, 130], 50) := by decide +kernel
theorem dX11_group_64 : decode cX11_group 64 = .ok (.aload_n 0, 1) := by decide +kernel
theorem dX11_group_65 : decode cX11_group 65 = .ok (.getfield 19, 3) := by decide +kernel
theorem dX11_group_68 : decode cX11_group 68 = .ok (.getfield 186, 3) := by decide +kernel
theorem dX11_group_71 : decode cX11_group 71 = .ok (.iload_n 1, 1) := by decide +kernel
theorem dX11_group_72 : decode cX11_group 72 = .ok (.iaload, 1) := by decide +kernel
theorem dX11_group_73 : decode cX11_group 73 = .ok (.ireturn, 1) := by decide +kernel
theorem dX11_group_74 : decode cX11_group 74 = .ok (.aload_n 0, 1) := by decide +kernel
theorem dX11_group_75 : decode cX11_group 75 = .ok (.getfield 19, 3) := by decide +kernel
theorem dX11_group_78 : decode cX11_group 78 = .ok (.getfield 189, 3) := by decide +kernel
theorem dX11_group_81 : decode cX11_group 81 = .ok (.iload_n 1, 1) := by decide +kernel
theorem dX11_group_82 : decode cX11_group 82 = .ok (.iaload, 1) := by decide +kernel
theorem dX11_group_83 : decode cX11_group 83 = .ok (.ireturn, 1) := by decide +kernel
theorem dX11_group_84 : decode cX11_group 84 = .ok (.aload_n 0, 1) := by decide +kernel
theorem dX11_group_85 : decode cX11_group 85 = .ok (.getfield 19, 3) := by decide +kernel
theorem dX11_group_88 : decode cX11_group 88 = .ok (.getfield 192, 3) := by decide +kernel
theorem dX11_group_91 : decode cX11_group 91 = .ok (.iload_n 1, 1) := by decide +kernel
theorem dX11_group_92 : decode cX11_group 92 = .ok (.iaload, 1) := by decide +kernel
theorem dX11_group_93 : decode cX11_group 93 = .ok (.ireturn, 1) := by decide +kernel
theorem dX11_group_94 : decode cX11_group 94 = .ok (.aload_n 0, 1) := by decide +kernel
theorem dX11_group_95 : decode cX11_group 95 = .ok (.getfield 19, 3) := by decide +kernel
theorem dX11_group_98 : decode cX11_group 98 = .ok (.getfield 195, 3) := by decide +kernel
theorem dX11_group_101 : decode cX11_group 101 = .ok (.iload_n 1, 1) := by decide +kernel
theorem dX11_group_102 : decode cX11_group 102 = .ok (.iaload, 1) := by decide +kernel
theorem dX11_group_103 : decode cX11_group 103 = .ok (.ireturn, 1) := by decide +kernel
theorem dX11_group_104 : decode cX11_group 104 = .ok (.aload_n 0, 1) := by decide +kernel
theorem dX11_group_105 : decode cX11_group 105 = .ok (.getfield 19, 3) := by decide +kernel
theorem dX11_group_108 : decode cX11_group 108 = .ok (.getfield 198, 3) := by decide +kernel
theorem dX11_group_111 : decode cX11_group 111 = .ok (.iload_n 1, 1) := by decide +kernel
theorem dX11_group_112 : decode cX11_group 112 = .ok (.iaload, 1) := by decide +kernel
theorem dX11_group_113 : decode cX11_group 113 = .ok (.ireturn, 1) := by decide +kernel
theorem dX11_group_114 : decode cX11_group 114 = .ok (.aload_n 0, 1) := by decide +kernel
theorem dX11_group_115 : decode cX11_group 115 = .ok (.getfield 44, 3) := by decide +kernel
theorem dX11_group_118 : decode cX11_group 118 = .ok (.getfield 201, 3) := by decide +kernel
theorem dX11_group_121 : decode cX11_group 121 = .ok (.iload_n 1, 1) := by decide +kernel
theorem dX11_group_122 : decode cX11_group 122 = .ok (.iaload, 1) := by decide +kernel
theorem dX11_group_123 : decode cX11_group 123 = .ok (.ireturn, 1) := by decide +kernel
theorem dX11_group_124 : decode cX11_group 124 = .ok (.aload_n 0, 1) := by decide +kernel
theorem dX11_group_125 : decode cX11_group 125 = .ok (.getfield 44, 3) := by decide +kernel
theorem dX11_group_128 : decode cX11_group 128 = .ok (.getfield 204, 3) := by decide +kernel
theorem dX11_group_131 : decode cX11_group 131 = .ok (.iload_n 1, 1) := by decide +kernel
theorem dX11_group_132 : decode cX11_group 132 = .ok (.iaload, 1) := by decide +kernel
theorem dX11_group_133 : decode cX11_group 133 = .ok (.ireturn, 1) := by decide +kernel
theorem dX11_group_134 : decode cX11_group 134 = .ok (.aload_n 0, 1) := by decide +kernel
theorem dX11_group_135 : decode cX11_group 135 = .ok (.getfield 44, 3) := by decide +kernel
theorem dX11_group_138 : decode cX11_group 138 = .ok (.getfield 207, 3) := by decide +kernel
theorem dX11_group_141 : decode cX11_group 141 = .ok (.iload_n 1, 1) := by decide +kernel
theorem dX11_group_142 : decode cX11_group 142 = .ok (.iaload, 1) := by decide +kernel
theorem dX11_group_143 : decode cX11_group 143 = .ok (.ireturn, 1) := by decide +kernel
theorem dX11_group_144 : decode cX11_group 144 = .ok (.aload_n 0, 1) := by decide +kernel
theorem dX11_group_145 : decode cX11_group 145 = .ok (.getfield 44, 3) := by decide +kernel
theorem dX11_group_148 : decode cX11_group 148 = .ok (.getfield 210, 3) := by decide +kernel
theorem dX11_group_151 : decode cX11_group 151 = .ok (.iload_n 1, 1) := by decide +kernel
theorem dX11_group_152 : decode cX11_group 152 = .ok (.iaload, 1) := by decide +kernel
theorem dX11_group_153 : decode cX11_group 153 = .ok (.ireturn, 1) := by decide +kernel
theorem dX11_group_154 : decode cX11_group 154 = .ok (.iconst (-1), 1) := by decide +kernel
theorem dX11_group_155 : decode cX11_group 155 = .ok (.ireturn, 1) := by decide +kernel
theorem dX11_member_0 : decode cX11_member 0 = .ok (.aload_n 0, 1) := by decide +kernel
theorem dX11_member_1 : decode cX11_member 1 = .ok (.getfield 19, 3) := by decide +kernel
theorem dX11_member_4 : decode cX11_member 4 = .ok (.iload_n 1, 1) := by decide +kernel
theorem dX11_member_5 : decode cX11_member 5 = .ok (.iload_n 2, 1) := by decide +kernel
theorem dX11_member_6 : decode cX11_member 6 = .ok (.invokevirtual 213, 3) := by decide +kernel
theorem dX11_member_9 : decode cX11_member 9 = .ok (.ifCond .ne 5, 3) := by decide +kernel
theorem dX11_member_12 : decode cX11_member 12 = .ok (.iconst (-1), 1) := by decide +kernel
theorem dX11_member_13 : decode cX11_member 13 = .ok (.ireturn, 1) := by decide +kernel
theorem dX11_member_14 : decode cX11_member 14 = .ok (.iload_n 1, 1) := by decide +kernel
theorem dX11_member_15 : decode cX11_member 15 = .ok (.bipush 6, 2) := by decide +kernel
theorem dX11_member_17 : decode cX11_member 17 = .ok (.imul, 1) := by decide +kernel
theorem dX11_member_18 : decode cX11_member 18 = .ok (.iload_n 2, 1) := by decide +kernel
theorem dX11_member_19 : decode cX11_member 19 = .ok (.iadd, 1) := by decide +kernel
theorem dX11_member_20 : decode cX11_member 20 = .ok (.istore 4, 2) := by decide +kernel
theorem dX11_member_22 : decode cX11_member 22 = .ok (.iload_n 3, 1) := by decide +kernel
theorem dX11_member_23 : decode cX11_member 23 = .ok (.tableswitch 140 0 7 #[45, 56, 67, 78, 88, 99, 110, 129], 45) := by decide +kernel
theorem dX11_member_68 : decode cX11_member 68 = .ok (.aload_n 0, 1) := by decide +kernel
theorem dX11_member_69 : decode cX11_member 69 = .ok (.getfield 44, 3) := by decide +kernel
theorem dX11_member_72 : decode cX11_member 72 = .ok (.getfield 217, 3) := by decide +kernel
theorem dX11_member_75 : decode cX11_member 75 = .ok (.iload 4, 2) := by decide +kernel
theorem dX11_member_77 : decode cX11_member 77 = .ok (.iaload, 1) := by decide +kernel
theorem dX11_member_78 : decode cX11_member 78 = .ok (.ireturn, 1) := by decide +kernel
theorem dX11_member_79 : decode cX11_member 79 = .ok (.aload_n 0, 1) := by decide +kernel
theorem dX11_member_80 : decode cX11_member 80 = .ok (.getfield 44, 3) := by decide +kernel
theorem dX11_member_83 : decode cX11_member 83 = .ok (.getfield 220, 3) := by decide +kernel
theorem dX11_member_86 : decode cX11_member 86 = .ok (.iload 4, 2) := by decide +kernel
theorem dX11_member_88 : decode cX11_member 88 = .ok (.iaload, 1) := by decide +kernel
theorem dX11_member_89 : decode cX11_member 89 = .ok (.ireturn, 1) := by decide +kernel
theorem dX11_member_90 : decode cX11_member 90 = .ok (.aload_n 0, 1) := by decide +kernel
theorem dX11_member_91 : decode cX11_member 91 = .ok (.getfield 19, 3) := by decide +kernel
theorem dX11_member_94 : decode cX11_member 94 = .ok (.getfield 223, 3) := by decide +kernel
theorem dX11_member_97 : decode cX11_member 97 = .ok (.iload 4, 2) := by decide +kernel
theorem dX11_member_99 : decode cX11_member 99 = .ok (.iaload, 1) := by decide +kernel
theorem dX11_member_100 : decode cX11_member 100 = .ok (.ireturn, 1) := by decide +kernel
theorem dX11_member_101 : decode cX11_member 101 = .ok (.aload_n 0, 1) := by decide +kernel
theorem dX11_member_102 : decode cX11_member 102 = .ok (.getfield 44, 3) := by decide +kernel
theorem dX11_member_105 : decode cX11_member 105 = .ok (.iload_n 1, 1) := by decide +kernel
theorem dX11_member_106 : decode cX11_member 106 = .ok (.iload_n 2, 1) := by decide +kernel
theorem dX11_member_107 : decode cX11_member 107 = .ok (.invokevirtual 226, 3) := by decide +kernel
theorem dX11_member_110 : decode cX11_member 110 = .ok (.ireturn, 1) := by decide +kernel
theorem dX11_member_111 : decode cX11_member 111 = .ok (.aload_n 0, 1) := by decide +kernel
theorem dX11_member_112 : decode cX11_member 112 = .ok (.getfield 44, 3) := by decide +kernel
theorem dX11_member_115 : decode cX11_member 115 = .ok (.getfield 230, 3) := by decide +kernel
theorem dX11_member_118 : decode cX11_member 118 = .ok (.iload 4, 2) := by decide +kernel
theorem dX11_member_120 : decode cX11_member 120 = .ok (.iaload, 1) := by decide +kernel
theorem dX11_member_121 : decode cX11_member 121 = .ok (.ireturn, 1) := by decide +kernel
theorem dX11_member_122 : decode cX11_member 122 = .ok (.aload_n 0, 1) := by decide +kernel
theorem dX11_member_123 : decode cX11_member 123 = .ok (.getfield 44, 3) := by decide +kernel
theorem dX11_member_126 : decode cX11_member 126 = .ok (.getfield 233, 3) := by decide +kernel
theorem dX11_member_129 : decode cX11_member 129 = .ok (.iload 4, 2) := by decide +kernel
theorem dX11_member_131 : decode cX11_member 131 = .ok (.iaload, 1) := by decide +kernel
theorem dX11_member_132 : decode cX11_member 132 = .ok (.ireturn, 1) := by decide +kernel
theorem dX11_member_133 : decode cX11_member 133 = .ok (.aload_n 0, 1) := by decide +kernel
theorem dX11_member_134 : decode cX11_member 134 = .ok (.getfield 19, 3) := by decide +kernel
theorem dX11_member_137 : decode cX11_member 137 = .ok (.iload_n 1, 1) := by decide +kernel
theorem dX11_member_138 : decode cX11_member 138 = .ok (.aload_n 0, 1) := by decide +kernel
theorem dX11_member_139 : decode cX11_member 139 = .ok (.getfield 44, 3) := by decide +kernel
theorem dX11_member_142 : decode cX11_member 142 = .ok (.getfield 233, 3) := by decide +kernel
theorem dX11_member_145 : decode cX11_member 145 = .ok (.iload 4, 2) := by decide +kernel
theorem dX11_member_147 : decode cX11_member 147 = .ok (.iaload, 1) := by decide +kernel
theorem dX11_member_148 : decode cX11_member 148 = .ok (.invokevirtual 236, 3) := by decide +kernel
theorem dX11_member_151 : decode cX11_member 151 = .ok (.ireturn, 1) := by decide +kernel
theorem dX11_member_152 : decode cX11_member 152 = .ok (.aload_n 0, 1) := by decide +kernel
theorem dX11_member_153 : decode cX11_member 153 = .ok (.getfield 44, 3) := by decide +kernel
theorem dX11_member_156 : decode cX11_member 156 = .ok (.getfield 239, 3) := by decide +kernel
theorem dX11_member_159 : decode cX11_member 159 = .ok (.iload 4, 2) := by decide +kernel
theorem dX11_member_161 : decode cX11_member 161 = .ok (.iaload, 1) := by decide +kernel
theorem dX11_member_162 : decode cX11_member 162 = .ok (.ireturn, 1) := by decide +kernel
theorem dX11_member_163 : decode cX11_member 163 = .ok (.iconst (-1), 1) := by decide +kernel
theorem dX11_member_164 : decode cX11_member 164 = .ok (.ireturn, 1) := by decide +kernel
theorem dX11_letter_0 : decode cX11_letter 0 = .ok (.aload_n 0, 1) := by decide +kernel
theorem dX11_letter_1 : decode cX11_letter 1 = .ok (.getfield 19, 3) := by decide +kernel
theorem dX11_letter_4 : decode cX11_letter 4 = .ok (.iload_n 1, 1) := by decide +kernel
theorem dX11_letter_5 : decode cX11_letter 5 = .ok (.iload_n 2, 1) := by decide +kernel
theorem dX11_letter_6 : decode cX11_letter 6 = .ok (.invokevirtual 242, 3) := by decide +kernel
theorem dX11_letter_9 : decode cX11_letter 9 = .ok (.ifCond .eq 13, 3) := by decide +kernel
theorem dX11_letter_12 : decode cX11_letter 12 = .ok (.iload_n 3, 1) := by decide +kernel
theorem dX11_letter_13 : decode cX11_letter 13 = .ok (.ifCond .lt 9, 3) := by decide +kernel
theorem dX11_letter_16 : decode cX11_letter 16 = .ok (.iload_n 3, 1) := by decide +kernel
theorem dX11_letter_17 : decode cX11_letter 17 = .ok (.bipush 6, 2) := by decide +kernel
theorem dX11_letter_19 : decode cX11_letter 19 = .ok (.if_icmp .lt 5, 3) := by decide +kernel
theorem dX11_letter_22 : decode cX11_letter 22 = .ok (.iconst (-1), 1) := by decide +kernel
theorem dX11_letter_23 : decode cX11_letter 23 = .ok (.ireturn, 1) := by decide +kernel
theorem dX11_letter_24 : decode cX11_letter 24 = .ok (.aload_n 0, 1) := by decide +kernel
theorem dX11_letter_25 : decode cX11_letter 25 = .ok (.getfield 19, 3) := by decide +kernel
theorem dX11_letter_28 : decode cX11_letter 28 = .ok (.getfield 245, 3) := by decide +kernel
theorem dX11_letter_31 : decode cX11_letter 31 = .ok (.iload_n 1, 1) := by decide +kernel
theorem dX11_letter_32 : decode cX11_letter 32 = .ok (.bipush 8, 2) := by decide +kernel
theorem dX11_letter_34 : decode cX11_letter 34 = .ok (.imul, 1) := by decide +kernel
theorem dX11_letter_35 : decode cX11_letter 35 = .ok (.iload_n 2, 1) := by decide +kernel
theorem dX11_letter_36 : decode cX11_letter 36 = .ok (.iadd, 1) := by decide +kernel
theorem dX11_letter_37 : decode cX11_letter 37 = .ok (.iaload, 1) := by decide +kernel
theorem dX11_letter_38 : decode cX11_letter 38 = .ok (.iconst 5, 1) := by decide +kernel
theorem dX11_letter_39 : decode cX11_letter 39 = .ok (.iload_n 3, 1) := by decide +kernel
theorem dX11_letter_40 : decode cX11_letter 40 = .ok (.imul, 1) := by decide +kernel
theorem dX11_letter_41 : decode cX11_letter 41 = .ok (.ishr, 1) := by decide +kernel
theorem dX11_letter_42 : decode cX11_letter 42 = .ok (.bipush 31, 2) := by decide +kernel
theorem dX11_letter_44 : decode cX11_letter 44 = .ok (.iand, 1) := by decide +kernel
theorem dX11_letter_45 : decode cX11_letter 45 = .ok (.ireturn, 1) := by decide +kernel
theorem dX11_track_0 : decode cX11_track 0 = .ok (.iload_n 1, 1) := by decide +kernel
theorem dX11_track_1 : decode cX11_track 1 = .ok (.ifCond .lt 14, 3) := by decide +kernel
theorem dX11_track_4 : decode cX11_track 4 = .ok (.iload_n 1, 1) := by decide +kernel
theorem dX11_track_5 : decode cX11_track 5 = .ok (.aload_n 0, 1) := by decide +kernel
theorem dX11_track_6 : decode cX11_track 6 = .ok (.getfield 19, 3) := by decide +kernel
theorem dX11_track_9 : decode cX11_track 9 = .ok (.getfield 150, 3) := by decide +kernel
theorem dX11_track_12 : decode cX11_track 12 = .ok (.if_icmp .lt 5, 3) := by decide +kernel
theorem dX11_track_15 : decode cX11_track 15 = .ok (.iconst (-1), 1) := by decide +kernel
theorem dX11_track_16 : decode cX11_track 16 = .ok (.ireturn, 1) := by decide +kernel
theorem dX11_track_17 : decode cX11_track 17 = .ok (.iload_n 2, 1) := by decide +kernel
theorem dX11_track_18 : decode cX11_track 18 = .ok (.tableswitch 76 0 3 #[30, 43, 56, 66], 30) := by decide +kernel
theorem dX11_track_48 : decode cX11_track 48 = .ok (.aload_n 0, 1) := by decide +kernel
theorem dX11_track_49 : decode cX11_track 49 = .ok (.getfield 19, 3) := by decide +kernel
theorem dX11_track_52 : decode cX11_track 52 = .ok (.getfield 248, 3) := by decide +kernel
theorem dX11_track_55 : decode cX11_track 55 = .ok (.iload_n 1, 1) := by decide +kernel
theorem dX11_track_56 : decode cX11_track 56 = .ok (.iaload, 1) := by decide +kernel
theorem dX11_track_57 : decode cX11_track 57 = .ok (.bipush 6, 2) := by decide +kernel
theorem dX11_track_59 : decode cX11_track 59 = .ok (.idiv, 1) := by decide +kernel
theorem dX11_track_60 : decode cX11_track 60 = .ok (.ireturn, 1) := by decide +kernel
theorem dX11_track_61 : decode cX11_track 61 = .ok (.aload_n 0, 1) := by decide +kernel
theorem dX11_track_62 : decode cX11_track 62 = .ok (.getfield 19, 3) := by decide +kernel
theorem dX11_track_65 : decode cX11_track 65 = .ok (.getfield 248, 3) := by decide +kernel
theorem dX11_track_68 : decode cX11_track 68 = .ok (.iload_n 1, 1) := by decide +kernel
theorem dX11_track_69 : decode cX11_track 69 = .ok (.iaload, 1) := by decide +kernel
theorem dX11_track_70 : decode cX11_track 70 = .ok (.bipush 6, 2) := by decide +kernel
theorem dX11_track_72 : decode cX11_track 72 = .ok (.irem, 1) := by decide +kernel
theorem dX11_track_73 : decode cX11_track 73 = .ok (.ireturn, 1) := by decide +kernel
theorem dX11_track_74 : decode cX11_track 74 = .ok (.aload_n 0, 1) := by decide +kernel
theorem dX11_track_75 : decode cX11_track 75 = .ok (.getfield 19, 3) := by decide +kernel
theorem dX11_track_78 : decode cX11_track 78 = .ok (.getfield 251, 3) := by decide +kernel
theorem dX11_track_81 : decode cX11_track 81 = .ok (.iload_n 1, 1) := by decide +kernel
theorem dX11_track_82 : decode cX11_track 82 = .ok (.iaload, 1) := by decide +kernel
theorem dX11_track_83 : decode cX11_track 83 = .ok (.ireturn, 1) := by decide +kernel
theorem dX11_track_84 : decode cX11_track 84 = .ok (.aload_n 0, 1) := by decide +kernel
theorem dX11_track_85 : decode cX11_track 85 = .ok (.getfield 19, 3) := by decide +kernel
theorem dX11_track_88 : decode cX11_track 88 = .ok (.getfield 254, 3) := by decide +kernel
theorem dX11_track_91 : decode cX11_track 91 = .ok (.iload_n 1, 1) := by decide +kernel
theorem dX11_track_92 : decode cX11_track 92 = .ok (.iaload, 1) := by decide +kernel
theorem dX11_track_93 : decode cX11_track 93 = .ok (.ireturn, 1) := by decide +kernel
theorem dX11_track_94 : decode cX11_track 94 = .ok (.iconst (-1), 1) := by decide +kernel
theorem dX11_track_95 : decode cX11_track 95 = .ok (.ireturn, 1) := by decide +kernel
theorem dX11_event_0 : decode cX11_event 0 = .ok (.iload_n 1, 1) := by decide +kernel
theorem dX11_event_1 : decode cX11_event 1 = .ok (.ifCond .lt 26, 3) := by decide +kernel
theorem dX11_event_4 : decode cX11_event 4 = .ok (.iload_n 1, 1) := by decide +kernel
theorem dX11_event_5 : decode cX11_event 5 = .ok (.aload_n 0, 1) := by decide +kernel
theorem dX11_event_6 : decode cX11_event 6 = .ok (.getfield 44, 3) := by decide +kernel
theorem dX11_event_9 : decode cX11_event 9 = .ok (.getfield 116, 3) := by decide +kernel
theorem dX11_event_12 : decode cX11_event 12 = .ok (.getfield 137, 3) := by decide +kernel
theorem dX11_event_15 : decode cX11_event 15 = .ok (.if_icmp .ge 12, 3) := by decide +kernel
theorem dX11_event_18 : decode cX11_event 18 = .ok (.iload_n 2, 1) := by decide +kernel
theorem dX11_event_19 : decode cX11_event 19 = .ok (.ifCond .lt 8, 3) := by decide +kernel
theorem dX11_event_22 : decode cX11_event 22 = .ok (.iload_n 2, 1) := by decide +kernel
theorem dX11_event_23 : decode cX11_event 23 = .ok (.iconst 5, 1) := by decide +kernel
theorem dX11_event_24 : decode cX11_event 24 = .ok (.if_icmp .lt 5, 3) := by decide +kernel
theorem dX11_event_27 : decode cX11_event 27 = .ok (.iconst (-1), 1) := by decide +kernel
theorem dX11_event_28 : decode cX11_event 28 = .ok (.ireturn, 1) := by decide +kernel
theorem dX11_event_29 : decode cX11_event 29 = .ok (.aload_n 0, 1) := by decide +kernel
theorem dX11_event_30 : decode cX11_event 30 = .ok (.getfield 44, 3) := by decide +kernel
theorem dX11_event_33 : decode cX11_event 33 = .ok (.getfield 116, 3) := by decide +kernel
theorem dX11_event_36 : decode cX11_event 36 = .ok (.getfield 257, 3) := by decide +kernel
theorem dX11_event_39 : decode cX11_event 39 = .ok (.iload_n 1, 1) := by decide +kernel
theorem dX11_event_40 : decode cX11_event 40 = .ok (.iconst 5, 1) := by decide +kernel
theorem dX11_event_41 : decode cX11_event 41 = .ok (.imul, 1) := by decide +kernel
theorem dX11_event_42 : decode cX11_event 42 = .ok (.iload_n 2, 1) := by decide +kernel
theorem dX11_event_43 : decode cX11_event 43 = .ok (.iadd, 1) := by decide +kernel
theorem dX11_event_44 : decode cX11_event 44 = .ok (.iaload, 1) := by decide +kernel
theorem dX11_event_45 : decode cX11_event 45 = .ok (.ireturn, 1) := by decide +kernel
theorem dX11_ticks_0 : decode cX11_ticks 0 = .ok (.aload_n 0, 1) := by decide +kernel
theorem dX11_ticks_1 : decode cX11_ticks 1 = .ok (.getfield 19, 3) := by decide +kernel
theorem dX11_ticks_4 : decode cX11_ticks 4 = .ok (.getfield 97, 3) := by decide +kernel
theorem dX11_ticks_7 : decode cX11_ticks 7 = .ok (.ifCond .eq 30, 3) := by decide +kernel
theorem dX11_ticks_10 : decode cX11_ticks 10 = .ok (.iload_n 1, 1) := by decide +kernel
theorem dX11_ticks_11 : decode cX11_ticks 11 = .ok (.iconst 1, 1) := by decide +kernel
theorem dX11_ticks_12 : decode cX11_ticks 12 = .ok (.if_icmp .lt 25, 3) := by decide +kernel
theorem dX11_ticks_15 : decode cX11_ticks 15 = .ok (.iload_n 1, 1) := by decide +kernel
theorem dX11_ticks_16 : decode cX11_ticks 16 = .ok (.sipush 500, 3) := by decide +kernel
theorem dX11_ticks_19 : decode cX11_ticks 19 = .ok (.if_icmp .gt 18, 3) := by decide +kernel
theorem dX11_ticks_22 : decode cX11_ticks 22 = .ok (.aload_n 0, 1) := by decide +kernel
theorem dX11_ticks_23 : decode cX11_ticks 23 = .ok (.getfield 44, 3) := by decide +kernel
theorem dX11_ticks_26 : decode cX11_ticks 26 = .ok (.getfield 127, 3) := by decide +kernel
theorem dX11_ticks_29 : decode cX11_ticks 29 = .ok (.iload_n 1, 1) := by decide +kernel
theorem dX11_ticks_30 : decode cX11_ticks 30 = .ok (.iadd, 1) := by decide +kernel
theorem dX11_ticks_31 : decode cX11_ticks 31 = .ok (.sipush 9999, 3) := by decide +kernel
theorem dX11_ticks_34 : decode cX11_ticks 34 = .ok (.if_icmp .le 6, 3) := by decide +kernel
theorem dX11_ticks_37 : decode cX11_ticks 37 = .ok (.bipush (-2), 2) := by decide +kernel
theorem dX11_ticks_39 : decode cX11_ticks 39 = .ok (.ireturn, 1) := by decide +kernel
theorem dX11_ticks_40 : decode cX11_ticks 40 = .ok (.aload_n 0, 1) := by decide +kernel
theorem dX11_ticks_41 : decode cX11_ticks 41 = .ok (.getfield 60, 3) := by decide +kernel
theorem dX11_ticks_44 : decode cX11_ticks 44 = .ok (.aload_n 0, 1) := by decide +kernel
theorem dX11_ticks_45 : decode cX11_ticks 45 = .ok (.getfield 44, 3) := by decide +kernel
theorem dX11_ticks_48 : decode cX11_ticks 48 = .ok (.invokevirtual 112, 3) := by decide +kernel
theorem dX11_ticks_51 : decode cX11_ticks 51 = .ok (.aload_n 0, 1) := by decide +kernel
theorem dX11_ticks_52 : decode cX11_ticks 52 = .ok (.getfield 53, 3) := by decide +kernel
theorem dX11_ticks_55 : decode cX11_ticks 55 = .ok (.iload_n 1, 1) := by decide +kernel
theorem dX11_ticks_56 : decode cX11_ticks 56 = .ok (.invokevirtual 260, 3) := by decide +kernel
theorem dX11_ticks_59 : decode cX11_ticks 59 = .ok (.aload_n 0, 1) := by decide +kernel
theorem dX11_ticks_60 : decode cX11_ticks 60 = .ok (.getfield 44, 3) := by decide +kernel
theorem dX11_ticks_63 : decode cX11_ticks 63 = .ok (.getfield 127, 3) := by decide +kernel
theorem dX11_ticks_66 : decode cX11_ticks 66 = .ok (.ireturn, 1) := by decide +kernel
theorem dX11_up_0 : decode cX11_up 0 = .ok (.aload_n 0, 1) := by decide +kernel
theorem dX11_up_1 : decode cX11_up 1 = .ok (.getfield 19, 3) := by decide +kernel
theorem dX11_up_4 : decode cX11_up 4 = .ok (.iconst 0, 1) := by decide +kernel
theorem dX11_up_5 : decode cX11_up 5 = .ok (.iload_n 1, 1) := by decide +kernel
theorem dX11_up_6 : decode cX11_up 6 = .ok (.invokevirtual 242, 3) := by decide +kernel
theorem dX11_up_9 : decode cX11_up 9 = .ok (.ifCond .ne 6, 3) := by decide +kernel
theorem dX11_up_12 : decode cX11_up 12 = .ok (.bipush (-2), 2) := by decide +kernel
theorem dX11_up_14 : decode cX11_up 14 = .ok (.ireturn, 1) := by decide +kernel
theorem dX11_up_15 : decode cX11_up 15 = .ok (.aload_n 0, 1) := by decide +kernel
theorem dX11_up_16 : decode cX11_up 16 = .ok (.getfield 44, 3) := by decide +kernel
theorem dX11_up_19 : decode cX11_up 19 = .ok (.iload_n 1, 1) := by decide +kernel
theorem dX11_up_20 : decode cX11_up 20 = .ok (.invokevirtual 263, 3) := by decide +kernel
theorem dX11_up_23 : decode cX11_up 23 = .ok (.ifCond .eq 6, 3) := by decide +kernel
theorem dX11_up_26 : decode cX11_up 26 = .ok (.bipush (-3), 2) := by decide +kernel
theorem dX11_up_28 : decode cX11_up 28 = .ok (.ireturn, 1) := by decide +kernel
theorem dX11_up_29 : decode cX11_up 29 = .ok (.aload_n 0, 1) := by decide +kernel
theorem dX11_up_30 : decode cX11_up 30 = .ok (.getfield 60, 3) := by decide +kernel
theorem dX11_up_33 : decode cX11_up 33 = .ok (.aload_n 0, 1) := by decide +kernel
theorem dX11_up_34 : decode cX11_up 34 = .ok (.getfield 44, 3) := by decide +kernel
theorem dX11_up_37 : decode cX11_up 37 = .ok (.invokevirtual 112, 3) := by decide +kernel
theorem dX11_up_40 : decode cX11_up 40 = .ok (.aload_n 0, 1) := by decide +kernel
theorem dX11_up_41 : decode cX11_up 41 = .ok (.getfield 53, 3) := by decide +kernel
theorem dX11_up_44 : decode cX11_up 44 = .ok (.iconst 1, 1) := by decide +kernel
theorem dX11_up_45 : decode cX11_up 45 = .ok (.iload_n 1, 1) := by decide +kernel
theorem dX11_up_46 : decode cX11_up 46 = .ok (.ishl, 1) := by decide +kernel
theorem dX11_up_47 : decode cX11_up 47 = .ok (.invokevirtual 266, 3) := by decide +kernel
theorem dX11_up_50 : decode cX11_up 50 = .ok (.iconst 1, 1) := by decide +kernel
theorem dX11_up_51 : decode cX11_up 51 = .ok (.ireturn, 1) := by decide +kernel
theorem dX11_down_0 : decode cX11_down 0 = .ok (.aload_n 0, 1) := by decide +kernel
theorem dX11_down_1 : decode cX11_down 1 = .ok (.getfield 19, 3) := by decide +kernel
theorem dX11_down_4 : decode cX11_down 4 = .ok (.iconst 0, 1) := by decide +kernel
theorem dX11_down_5 : decode cX11_down 5 = .ok (.iload_n 1, 1) := by decide +kernel
theorem dX11_down_6 : decode cX11_down 6 = .ok (.invokevirtual 242, 3) := by decide +kernel
theorem dX11_down_9 : decode cX11_down 9 = .ok (.ifCond .ne 6, 3) := by decide +kernel
theorem dX11_down_12 : decode cX11_down 12 = .ok (.bipush (-2), 2) := by decide +kernel
theorem dX11_down_14 : decode cX11_down 14 = .ok (.ireturn, 1) := by decide +kernel
theorem dX11_down_15 : decode cX11_down 15 = .ok (.aload_n 0, 1) := by decide +kernel
theorem dX11_down_16 : decode cX11_down 16 = .ok (.getfield 44, 3) := by decide +kernel
theorem dX11_down_19 : decode cX11_down 19 = .ok (.iload_n 1, 1) := by decide +kernel
theorem dX11_down_20 : decode cX11_down 20 = .ok (.invokevirtual 263, 3) := by decide +kernel
theorem dX11_down_23 : decode cX11_down 23 = .ok (.ifCond .ne 6, 3) := by decide +kernel
theorem dX11_down_26 : decode cX11_down 26 = .ok (.bipush (-3), 2) := by decide +kernel
theorem dX11_down_28 : decode cX11_down 28 = .ok (.ireturn, 1) := by decide +kernel
theorem dX11_down_29 : decode cX11_down 29 = .ok (.aload_n 0, 1) := by decide +kernel
theorem dX11_down_30 : decode cX11_down 30 = .ok (.getfield 60, 3) := by decide +kernel
theorem dX11_down_33 : decode cX11_down 33 = .ok (.aload_n 0, 1) := by decide +kernel
theorem dX11_down_34 : decode cX11_down 34 = .ok (.getfield 44, 3) := by decide +kernel
theorem dX11_down_37 : decode cX11_down 37 = .ok (.invokevirtual 112, 3) := by decide +kernel
theorem dX11_down_40 : decode cX11_down 40 = .ok (.aload_n 0, 1) := by decide +kernel
theorem dX11_down_41 : decode cX11_down 41 = .ok (.getfield 53, 3) := by decide +kernel
theorem dX11_down_44 : decode cX11_down 44 = .ok (.iload_n 1, 1) := by decide +kernel
theorem dX11_down_45 : decode cX11_down 45 = .ok (.iload_n 2, 1) := by decide +kernel
theorem dX11_down_46 : decode cX11_down 46 = .ok (.invokevirtual 269, 3) := by decide +kernel
theorem dX11_down_49 : decode cX11_down 49 = .ok (.ireturn, 1) := by decide +kernel
theorem dX11_cut_0 : decode cX11_cut 0 = .ok (.aload_n 0, 1) := by decide +kernel
theorem dX11_cut_1 : decode cX11_cut 1 = .ok (.getfield 19, 3) := by decide +kernel
theorem dX11_cut_4 : decode cX11_cut 4 = .ok (.iconst 1, 1) := by decide +kernel
theorem dX11_cut_5 : decode cX11_cut 5 = .ok (.iload_n 1, 1) := by decide +kernel
theorem dX11_cut_6 : decode cX11_cut 6 = .ok (.invokevirtual 242, 3) := by decide +kernel
theorem dX11_cut_9 : decode cX11_cut 9 = .ok (.ifCond .ne 6, 3) := by decide +kernel
theorem dX11_cut_12 : decode cX11_cut 12 = .ok (.bipush (-2), 2) := by decide +kernel
theorem dX11_cut_14 : decode cX11_cut 14 = .ok (.ireturn, 1) := by decide +kernel
theorem dX11_cut_15 : decode cX11_cut 15 = .ok (.iload_n 2, 1) := by decide +kernel
theorem dX11_cut_16 : decode cX11_cut 16 = .ok (.aload_n 0, 1) := by decide +kernel
theorem dX11_cut_17 : decode cX11_cut 17 = .ok (.getfield 44, 3) := by decide +kernel
theorem dX11_cut_20 : decode cX11_cut 20 = .ok (.iload_n 1, 1) := by decide +kernel
theorem dX11_cut_21 : decode cX11_cut 21 = .ok (.invokevirtual 273, 3) := by decide +kernel
theorem dX11_cut_24 : decode cX11_cut 24 = .ok (.if_icmp .ne 6, 3) := by decide +kernel
theorem dX11_cut_27 : decode cX11_cut 27 = .ok (.bipush (-3), 2) := by decide +kernel
theorem dX11_cut_29 : decode cX11_cut 29 = .ok (.ireturn, 1) := by decide +kernel
theorem dX11_cut_30 : decode cX11_cut 30 = .ok (.aload_n 0, 1) := by decide +kernel
theorem dX11_cut_31 : decode cX11_cut 31 = .ok (.getfield 60, 3) := by decide +kernel
theorem dX11_cut_34 : decode cX11_cut 34 = .ok (.aload_n 0, 1) := by decide +kernel
theorem dX11_cut_35 : decode cX11_cut 35 = .ok (.getfield 44, 3) := by decide +kernel
theorem dX11_cut_38 : decode cX11_cut 38 = .ok (.invokevirtual 112, 3) := by decide +kernel
theorem dX11_cut_41 : decode cX11_cut 41 = .ok (.aload_n 0, 1) := by decide +kernel
theorem dX11_cut_42 : decode cX11_cut 42 = .ok (.getfield 53, 3) := by decide +kernel
theorem dX11_cut_45 : decode cX11_cut 45 = .ok (.aload_n 0, 1) := by decide +kernel
theorem dX11_cut_46 : decode cX11_cut 46 = .ok (.getfield 44, 3) := by decide +kernel
theorem dX11_cut_49 : decode cX11_cut 49 = .ok (.getfield 156, 3) := by decide +kernel
theorem dX11_cut_52 : decode cX11_cut 52 = .ok (.iconst 1, 1) := by decide +kernel
theorem dX11_cut_53 : decode cX11_cut 53 = .ok (.iload_n 1, 1) := by decide +kernel
theorem dX11_cut_54 : decode cX11_cut 54 = .ok (.ishl, 1) := by decide +kernel
theorem dX11_cut_55 : decode cX11_cut 55 = .ok (.ixor, 1) := by decide +kernel
theorem dX11_cut_56 : decode cX11_cut 56 = .ok (.invokevirtual 276, 3) := by decide +kernel
theorem dX11_cut_59 : decode cX11_cut 59 = .ok (.iconst 1, 1) := by decide +kernel
theorem dX11_cut_60 : decode cX11_cut 60 = .ok (.ireturn, 1) := by decide +kernel
theorem dX11_split_0 : decode cX11_split 0 = .ok (.aload_n 0, 1) := by decide +kernel
theorem dX11_split_1 : decode cX11_split 1 = .ok (.getfield 19, 3) := by decide +kernel
theorem dX11_split_4 : decode cX11_split 4 = .ok (.getfield 97, 3) := by decide +kernel
theorem dX11_split_7 : decode cX11_split 7 = .ok (.ifCond .eq 14, 3) := by decide +kernel
theorem dX11_split_10 : decode cX11_split 10 = .ok (.aload_n 0, 1) := by decide +kernel
theorem dX11_split_11 : decode cX11_split 11 = .ok (.getfield 19, 3) := by decide +kernel
theorem dX11_split_14 : decode cX11_split 14 = .ok (.iload_n 1, 1) := by decide +kernel
theorem dX11_split_15 : decode cX11_split 15 = .ok (.invokevirtual 279, 3) := by decide +kernel
theorem dX11_split_18 : decode cX11_split 18 = .ok (.ifCond .ne 6, 3) := by decide +kernel
theorem dX11_split_21 : decode cX11_split 21 = .ok (.bipush (-2), 2) := by decide +kernel
theorem dX11_split_23 : decode cX11_split 23 = .ok (.ireturn, 1) := by decide +kernel
theorem dX11_split_24 : decode cX11_split 24 = .ok (.iload_n 1, 1) := by decide +kernel
theorem dX11_split_25 : decode cX11_split 25 = .ok (.aload_n 0, 1) := by decide +kernel
theorem dX11_split_26 : decode cX11_split 26 = .ok (.getfield 44, 3) := by decide +kernel
theorem dX11_split_29 : decode cX11_split 29 = .ok (.getfield 159, 3) := by decide +kernel
theorem dX11_split_32 : decode cX11_split 32 = .ok (.if_icmp .ne 6, 3) := by decide +kernel
theorem dX11_split_35 : decode cX11_split 35 = .ok (.bipush (-3), 2) := by decide +kernel
theorem dX11_split_37 : decode cX11_split 37 = .ok (.ireturn, 1) := by decide +kernel
theorem dX11_split_38 : decode cX11_split 38 = .ok (.aload_n 0, 1) := by decide +kernel
theorem dX11_split_39 : decode cX11_split 39 = .ok (.getfield 60, 3) := by decide +kernel
theorem dX11_split_42 : decode cX11_split 42 = .ok (.aload_n 0, 1) := by decide +kernel
theorem dX11_split_43 : decode cX11_split 43 = .ok (.getfield 44, 3) := by decide +kernel
theorem dX11_split_46 : decode cX11_split 46 = .ok (.invokevirtual 112, 3) := by decide +kernel
theorem dX11_split_49 : decode cX11_split 49 = .ok (.aload_n 0, 1) := by decide +kernel
theorem dX11_split_50 : decode cX11_split 50 = .ok (.getfield 44, 3) := by decide +kernel
theorem dX11_split_53 : decode cX11_split 53 = .ok (.iload_n 1, 1) := by decide +kernel
theorem dX11_split_54 : decode cX11_split 54 = .ok (.putfield 159, 3) := by decide +kernel
theorem dX11_split_57 : decode cX11_split 57 = .ok (.iconst 1, 1) := by decide +kernel
theorem dX11_split_58 : decode cX11_split 58 = .ok (.ireturn, 1) := by decide +kernel
theorem dX11_word_0 : decode cX11_word 0 = .ok (.aload_n 0, 1) := by decide +kernel
theorem dX11_word_1 : decode cX11_word 1 = .ok (.getfield 19, 3) := by decide +kernel
theorem dX11_word_4 : decode cX11_word 4 = .ok (.iload_n 1, 1) := by decide +kernel
theorem dX11_word_5 : decode cX11_word 5 = .ok (.iload_n 2, 1) := by decide +kernel
theorem dX11_word_6 : decode cX11_word 6 = .ok (.invokevirtual 213, 3) := by decide +kernel
theorem dX11_word_9 : decode cX11_word 9 = .ok (.ifCond .eq 15, 3) := by decide +kernel
theorem dX11_word_12 : decode cX11_word 12 = .ok (.iload_n 3, 1) := by decide +kernel
theorem dX11_word_13 : decode cX11_word 13 = .ok (.iconst 1, 1) := by decide +kernel
theorem dX11_word_14 : decode cX11_word 14 = .ok (.if_icmp .lt 10, 3) := by decide +kernel
theorem dX11_word_17 : decode cX11_word 17 = .ok (.iload_n 3, 1) := by decide +kernel
theorem dX11_word_18 : decode cX11_word 18 = .ok (.sipush 255, 3) := by decide +kernel
theorem dX11_word_21 : decode cX11_word 21 = .ok (.if_icmp .le 6, 3) := by decide +kernel
theorem dX11_word_24 : decode cX11_word 24 = .ok (.bipush (-2), 2) := by decide +kernel
theorem dX11_word_26 : decode cX11_word 26 = .ok (.ireturn, 1) := by decide +kernel
theorem dX11_word_27 : decode cX11_word 27 = .ok (.aload_n 0, 1) := by decide +kernel
theorem dX11_word_28 : decode cX11_word 28 = .ok (.getfield 60, 3) := by decide +kernel
theorem dX11_word_31 : decode cX11_word 31 = .ok (.aload_n 0, 1) := by decide +kernel
theorem dX11_word_32 : decode cX11_word 32 = .ok (.getfield 44, 3) := by decide +kernel
theorem dX11_word_35 : decode cX11_word 35 = .ok (.invokevirtual 112, 3) := by decide +kernel
theorem dX11_word_38 : decode cX11_word 38 = .ok (.aload_n 0, 1) := by decide +kernel
theorem dX11_word_39 : decode cX11_word 39 = .ok (.getfield 44, 3) := by decide +kernel
theorem dX11_word_42 : decode cX11_word 42 = .ok (.getfield 217, 3) := by decide +kernel
theorem dX11_word_45 : decode cX11_word 45 = .ok (.iload_n 1, 1) := by decide +kernel
theorem dX11_word_46 : decode cX11_word 46 = .ok (.bipush 6, 2) := by decide +kernel
theorem dX11_word_48 : decode cX11_word 48 = .ok (.imul, 1) := by decide +kernel
theorem dX11_word_49 : decode cX11_word 49 = .ok (.iload_n 2, 1) := by decide +kernel
theorem dX11_word_50 : decode cX11_word 50 = .ok (.iadd, 1) := by decide +kernel
theorem dX11_word_51 : decode cX11_word 51 = .ok (.iaload, 1) := by decide +kernel
theorem dX11_word_52 : decode cX11_word 52 = .ok (.istore 4, 2) := by decide +kernel
theorem dX11_word_54 : decode cX11_word 54 = .ok (.aload_n 0, 1) := by decide +kernel
theorem dX11_word_55 : decode cX11_word 55 = .ok (.getfield 53, 3) := by decide +kernel
theorem dX11_word_58 : decode cX11_word 58 = .ok (.iload_n 1, 1) := by decide +kernel
theorem dX11_word_59 : decode cX11_word 59 = .ok (.iload_n 2, 1) := by decide +kernel
theorem dX11_word_60 : decode cX11_word 60 = .ok (.iload_n 3, 1) := by decide +kernel
theorem dX11_word_61 : decode cX11_word 61 = .ok (.invokevirtual 282, 3) := by decide +kernel
theorem dX11_word_64 : decode cX11_word 64 = .ok (.iload 4, 2) := by decide +kernel
theorem dX11_word_66 : decode cX11_word 66 = .ok (.ireturn, 1) := by decide +kernel
theorem dX11_chance_0 : decode cX11_chance 0 = .ok (.aload_n 0, 1) := by decide +kernel
theorem dX11_chance_1 : decode cX11_chance 1 = .ok (.getfield 19, 3) := by decide +kernel
theorem dX11_chance_4 : decode cX11_chance 4 = .ok (.getfield 97, 3) := by decide +kernel
theorem dX11_chance_7 : decode cX11_chance 7 = .ok (.ifCond .eq 17, 3) := by decide +kernel
theorem dX11_chance_10 : decode cX11_chance 10 = .ok (.iload_n 1, 1) := by decide +kernel
theorem dX11_chance_11 : decode cX11_chance 11 = .ok (.ifCond .lt 13, 3) := by decide +kernel
theorem dX11_chance_14 : decode cX11_chance 14 = .ok (.iload_n 1, 1) := by decide +kernel
theorem dX11_chance_15 : decode cX11_chance 15 = .ok (.bipush 99, 2) := by decide +kernel
theorem dX11_chance_17 : decode cX11_chance 17 = .ok (.if_icmp .gt 7, 3) := by decide +kernel
theorem dX11_chance_20 : decode cX11_chance 20 = .ok (.iload_n 2, 1) := by decide +kernel
theorem dX11_chance_21 : decode cX11_chance 21 = .ok (.ifCond .ge 6, 3) := by decide +kernel
theorem dX11_chance_24 : decode cX11_chance 24 = .ok (.bipush (-2), 2) := by decide +kernel
theorem dX11_chance_26 : decode cX11_chance 26 = .ok (.ireturn, 1) := by decide +kernel
theorem dX11_chance_27 : decode cX11_chance 27 = .ok (.aload_n 0, 1) := by decide +kernel
theorem dX11_chance_28 : decode cX11_chance 28 = .ok (.getfield 60, 3) := by decide +kernel
theorem dX11_chance_31 : decode cX11_chance 31 = .ok (.aload_n 0, 1) := by decide +kernel
theorem dX11_chance_32 : decode cX11_chance 32 = .ok (.getfield 44, 3) := by decide +kernel
theorem dX11_chance_35 : decode cX11_chance 35 = .ok (.invokevirtual 112, 3) := by decide +kernel
theorem dX11_chance_38 : decode cX11_chance 38 = .ok (.aload_n 0, 1) := by decide +kernel
theorem dX11_chance_39 : decode cX11_chance 39 = .ok (.getfield 44, 3) := by decide +kernel
theorem dX11_chance_42 : decode cX11_chance 42 = .ok (.iload_n 1, 1) := by decide +kernel
theorem dX11_chance_43 : decode cX11_chance 43 = .ok (.putfield 162, 3) := by decide +kernel
theorem dX11_chance_46 : decode cX11_chance 46 = .ok (.aload_n 0, 1) := by decide +kernel
theorem dX11_chance_47 : decode cX11_chance 47 = .ok (.getfield 44, 3) := by decide +kernel
theorem dX11_chance_50 : decode cX11_chance 50 = .ok (.iload_n 2, 1) := by decide +kernel
theorem dX11_chance_51 : decode cX11_chance 51 = .ok (.putfield 165, 3) := by decide +kernel
theorem dX11_chance_54 : decode cX11_chance 54 = .ok (.iconst 1, 1) := by decide +kernel
theorem dX11_chance_55 : decode cX11_chance 55 = .ok (.ireturn, 1) := by decide +kernel
theorem dX11_isPair_0 : decode cX11_isPair 0 = .ok (.aload_n 0, 1) := by decide +kernel
theorem dX11_isPair_1 : decode cX11_isPair 1 = .ok (.getfield 19, 3) := by decide +kernel
theorem dX11_isPair_4 : decode cX11_isPair 4 = .ok (.iload_n 1, 1) := by decide +kernel
theorem dX11_isPair_5 : decode cX11_isPair 5 = .ok (.invokevirtual 182, 3) := by decide +kernel
theorem dX11_isPair_8 : decode cX11_isPair 8 = .ok (.ifCond .eq 19, 3) := by decide +kernel
theorem dX11_isPair_11 : decode cX11_isPair 11 = .ok (.aload_n 0, 1) := by decide +kernel
theorem dX11_isPair_12 : decode cX11_isPair 12 = .ok (.getfield 19, 3) := by decide +kernel
theorem dX11_isPair_15 : decode cX11_isPair 15 = .ok (.iconst 0, 1) := by decide +kernel
theorem dX11_isPair_16 : decode cX11_isPair 16 = .ok (.iload_n 2, 1) := by decide +kernel
theorem dX11_isPair_17 : decode cX11_isPair 17 = .ok (.invokevirtual 242, 3) := by decide +kernel
theorem dX11_isPair_20 : decode cX11_isPair 20 = .ok (.ifCond .eq 7, 3) := by decide +kernel
theorem dX11_isPair_23 : decode cX11_isPair 23 = .ok (.iconst 1, 1) := by decide +kernel
theorem dX11_isPair_24 : decode cX11_isPair 24 = .ok (.goto 4, 3) := by decide +kernel
theorem dX11_isPair_27 : decode cX11_isPair 27 = .ok (.iconst 0, 1) := by decide +kernel
theorem dX11_isPair_28 : decode cX11_isPair 28 = .ok (.ireturn, 1) := by decide +kernel
theorem dX11_holder_0 : decode cX11_holder 0 = .ok (.aload_n 0, 1) := by decide +kernel
theorem dX11_holder_1 : decode cX11_holder 1 = .ok (.iload_n 1, 1) := by decide +kernel
theorem dX11_holder_2 : decode cX11_holder 2 = .ok (.iload_n 2, 1) := by decide +kernel
theorem dX11_holder_3 : decode cX11_holder 3 = .ok (.invokevirtual 286, 3) := by decide +kernel
theorem dX11_holder_6 : decode cX11_holder 6 = .ok (.ifCond .eq 15, 3) := by decide +kernel
theorem dX11_holder_9 : decode cX11_holder 9 = .ok (.aload_n 0, 1) := by decide +kernel
theorem dX11_holder_10 : decode cX11_holder 10 = .ok (.getfield 44, 3) := by decide +kernel
theorem dX11_holder_13 : decode cX11_holder 13 = .ok (.iload_n 1, 1) := by decide +kernel
theorem dX11_holder_14 : decode cX11_holder 14 = .ok (.iload_n 2, 1) := by decide +kernel
theorem dX11_holder_15 : decode cX11_holder 15 = .ok (.invokevirtual 289, 3) := by decide +kernel
theorem dX11_holder_18 : decode cX11_holder 18 = .ok (.goto 4, 3) := by decide +kernel
theorem dX11_holder_21 : decode cX11_holder 21 = .ok (.iconst (-1), 1) := by decide +kernel
theorem dX11_holder_22 : decode cX11_holder 22 = .ok (.ireturn, 1) := by decide +kernel
theorem dX11_doubles_0 : decode cX11_doubles 0 = .ok (.aload_n 0, 1) := by decide +kernel
theorem dX11_doubles_1 : decode cX11_doubles 1 = .ok (.getfield 19, 3) := by decide +kernel
theorem dX11_doubles_4 : decode cX11_doubles 4 = .ok (.getfield 97, 3) := by decide +kernel
theorem dX11_doubles_7 : decode cX11_doubles 7 = .ok (.ifCond .ne 5, 3) := by decide +kernel
theorem dX11_doubles_10 : decode cX11_doubles 10 = .ok (.iconst (-1), 1) := by decide +kernel
theorem dX11_doubles_11 : decode cX11_doubles 11 = .ok (.ireturn, 1) := by decide +kernel
theorem dX11_doubles_12 : decode cX11_doubles 12 = .ok (.iconst 0, 1) := by decide +kernel
theorem dX11_doubles_13 : decode cX11_doubles 13 = .ok (.istore_n 1, 1) := by decide +kernel
theorem dX11_doubles_14 : decode cX11_doubles 14 = .ok (.iconst 0, 1) := by decide +kernel
theorem dX11_doubles_15 : decode cX11_doubles 15 = .ok (.istore_n 2, 1) := by decide +kernel
theorem dX11_doubles_16 : decode cX11_doubles 16 = .ok (.iload_n 2, 1) := by decide +kernel
theorem dX11_doubles_17 : decode cX11_doubles 17 = .ok (.iconst 5, 1) := by decide +kernel
theorem dX11_doubles_18 : decode cX11_doubles 18 = .ok (.if_icmp .ge 30, 3) := by decide +kernel
theorem dX11_doubles_21 : decode cX11_doubles 21 = .ok (.iload_n 1, 1) := by decide +kernel
theorem dX11_doubles_22 : decode cX11_doubles 22 = .ok (.aload_n 0, 1) := by decide +kernel
theorem dX11_doubles_23 : decode cX11_doubles 23 = .ok (.getfield 44, 3) := by decide +kernel
theorem dX11_doubles_26 : decode cX11_doubles 26 = .ok (.iload_n 2, 1) := by decide +kernel
theorem dX11_doubles_27 : decode cX11_doubles 27 = .ok (.invokevirtual 292, 3) := by decide +kernel
theorem dX11_doubles_30 : decode cX11_doubles 30 = .ok (.ifCond .eq 9, 3) := by decide +kernel
theorem dX11_doubles_33 : decode cX11_doubles 33 = .ok (.iconst 1, 1) := by decide +kernel
theorem dX11_doubles_34 : decode cX11_doubles 34 = .ok (.iload_n 2, 1) := by decide +kernel
theorem dX11_doubles_35 : decode cX11_doubles 35 = .ok (.ishl, 1) := by decide +kernel
theorem dX11_doubles_36 : decode cX11_doubles 36 = .ok (.goto 4, 3) := by decide +kernel
theorem dX11_doubles_39 : decode cX11_doubles 39 = .ok (.iconst 0, 1) := by decide +kernel
theorem dX11_doubles_40 : decode cX11_doubles 40 = .ok (.ior, 1) := by decide +kernel
theorem dX11_doubles_41 : decode cX11_doubles 41 = .ok (.istore_n 1, 1) := by decide +kernel
theorem dX11_doubles_42 : decode cX11_doubles 42 = .ok (.iinc 2 1, 3) := by decide +kernel
theorem dX11_doubles_45 : decode cX11_doubles 45 = .ok (.goto (-29), 3) := by decide +kernel
theorem dX11_doubles_48 : decode cX11_doubles 48 = .ok (.iload_n 1, 1) := by decide +kernel
theorem dX11_doubles_49 : decode cX11_doubles 49 = .ok (.ireturn, 1) := by decide +kernel
theorem dX11_orphans_0 : decode cX11_orphans 0 = .ok (.aload_n 0, 1) := by decide +kernel
theorem dX11_orphans_1 : decode cX11_orphans 1 = .ok (.getfield 19, 3) := by decide +kernel
theorem dX11_orphans_4 : decode cX11_orphans 4 = .ok (.getfield 97, 3) := by decide +kernel
theorem dX11_orphans_7 : decode cX11_orphans 7 = .ok (.ifCond .ne 5, 3) := by decide +kernel
theorem dX11_orphans_10 : decode cX11_orphans 10 = .ok (.iconst (-1), 1) := by decide +kernel
theorem dX11_orphans_11 : decode cX11_orphans 11 = .ok (.ireturn, 1) := by decide +kernel
theorem dX11_orphans_12 : decode cX11_orphans 12 = .ok (.iconst 0, 1) := by decide +kernel
theorem dX11_orphans_13 : decode cX11_orphans 13 = .ok (.istore_n 1, 1) := by decide +kernel
theorem dX11_orphans_14 : decode cX11_orphans 14 = .ok (.iconst 0, 1) := by decide +kernel
theorem dX11_orphans_15 : decode cX11_orphans 15 = .ok (.istore_n 2, 1) := by decide +kernel
theorem dX11_orphans_16 : decode cX11_orphans 16 = .ok (.iload_n 2, 1) := by decide +kernel
theorem dX11_orphans_17 : decode cX11_orphans 17 = .ok (.iconst 5, 1) := by decide +kernel
theorem dX11_orphans_18 : decode cX11_orphans 18 = .ok (.if_icmp .ge 61, 3) := by decide +kernel
theorem dX11_orphans_21 : decode cX11_orphans 21 = .ok (.aload_n 0, 1) := by decide +kernel
theorem dX11_orphans_22 : decode cX11_orphans 22 = .ok (.getfield 44, 3) := by decide +kernel
theorem dX11_orphans_25 : decode cX11_orphans 25 = .ok (.getfield 210, 3) := by decide +kernel
theorem dX11_orphans_28 : decode cX11_orphans 28 = .ok (.iload_n 2, 1) := by decide +kernel
theorem dX11_orphans_29 : decode cX11_orphans 29 = .ok (.iaload, 1) := by decide +kernel
theorem dX11_orphans_30 : decode cX11_orphans 30 = .ok (.ifCond .ne 27, 3) := by decide +kernel
theorem dX11_orphans_33 : decode cX11_orphans 33 = .ok (.aload_n 0, 1) := by decide +kernel
theorem dX11_orphans_34 : decode cX11_orphans 34 = .ok (.getfield 19, 3) := by decide +kernel
theorem dX11_orphans_37 : decode cX11_orphans 37 = .ok (.getfield 198, 3) := by decide +kernel
theorem dX11_orphans_40 : decode cX11_orphans 40 = .ok (.iload_n 2, 1) := by decide +kernel
theorem dX11_orphans_41 : decode cX11_orphans 41 = .ok (.iaload, 1) := by decide +kernel
theorem dX11_orphans_42 : decode cX11_orphans 42 = .ok (.aload_n 0, 1) := by decide +kernel
theorem dX11_orphans_43 : decode cX11_orphans 43 = .ok (.getfield 44, 3) := by decide +kernel
theorem dX11_orphans_46 : decode cX11_orphans 46 = .ok (.getfield 153, 3) := by decide +kernel
theorem dX11_orphans_49 : decode cX11_orphans 49 = .ok (.iand, 1) := by decide +kernel
theorem dX11_orphans_50 : decode cX11_orphans 50 = .ok (.ifCond .eq 7, 3) := by decide +kernel
theorem dX11_orphans_53 : decode cX11_orphans 53 = .ok (.iconst 1, 1) := by decide +kernel
theorem dX11_orphans_54 : decode cX11_orphans 54 = .ok (.goto 4, 3) := by decide +kernel
theorem dX11_orphans_57 : decode cX11_orphans 57 = .ok (.iconst 0, 1) := by decide +kernel
theorem dX11_orphans_58 : decode cX11_orphans 58 = .ok (.istore_n 3, 1) := by decide +kernel
theorem dX11_orphans_59 : decode cX11_orphans 59 = .ok (.iload_n 1, 1) := by decide +kernel
theorem dX11_orphans_60 : decode cX11_orphans 60 = .ok (.iload_n 3, 1) := by decide +kernel
theorem dX11_orphans_61 : decode cX11_orphans 61 = .ok (.ifCond .eq 9, 3) := by decide +kernel
theorem dX11_orphans_64 : decode cX11_orphans 64 = .ok (.iconst 1, 1) := by decide +kernel
theorem dX11_orphans_65 : decode cX11_orphans 65 = .ok (.iload_n 2, 1) := by decide +kernel
theorem dX11_orphans_66 : decode cX11_orphans 66 = .ok (.ishl, 1) := by decide +kernel
theorem dX11_orphans_67 : decode cX11_orphans 67 = .ok (.goto 4, 3) := by decide +kernel
theorem dX11_orphans_70 : decode cX11_orphans 70 = .ok (.iconst 0, 1) := by decide +kernel
theorem dX11_orphans_71 : decode cX11_orphans 71 = .ok (.ior, 1) := by decide +kernel
theorem dX11_orphans_72 : decode cX11_orphans 72 = .ok (.istore_n 1, 1) := by decide +kernel
theorem dX11_orphans_73 : decode cX11_orphans 73 = .ok (.iinc 2 1, 3) := by decide +kernel
theorem dX11_orphans_76 : decode cX11_orphans 76 = .ok (.goto (-60), 3) := by decide +kernel
theorem dX11_orphans_79 : decode cX11_orphans 79 = .ok (.iload_n 1, 1) := by decide +kernel
theorem dX11_orphans_80 : decode cX11_orphans 80 = .ok (.ireturn, 1) := by decide +kernel
theorem dX11_holds_0 : decode cX11_holds 0 = .ok (.aload_n 0, 1) := by decide +kernel
theorem dX11_holds_1 : decode cX11_holds 1 = .ok (.getfield 19, 3) := by decide +kernel
theorem dX11_holds_4 : decode cX11_holds 4 = .ok (.iconst 0, 1) := by decide +kernel
theorem dX11_holds_5 : decode cX11_holds 5 = .ok (.iload_n 1, 1) := by decide +kernel
theorem dX11_holds_6 : decode cX11_holds 6 = .ok (.invokevirtual 242, 3) := by decide +kernel
theorem dX11_holds_9 : decode cX11_holds 9 = .ok (.ifCond .ne 5, 3) := by decide +kernel
theorem dX11_holds_12 : decode cX11_holds 12 = .ok (.iconst (-1), 1) := by decide +kernel
theorem dX11_holds_13 : decode cX11_holds 13 = .ok (.ireturn, 1) := by decide +kernel
theorem dX11_holds_14 : decode cX11_holds 14 = .ok (.iconst 0, 1) := by decide +kernel
theorem dX11_holds_15 : decode cX11_holds 15 = .ok (.istore_n 2, 1) := by decide +kernel
theorem dX11_holds_16 : decode cX11_holds 16 = .ok (.iconst 0, 1) := by decide +kernel
theorem dX11_holds_17 : decode cX11_holds 17 = .ok (.istore_n 3, 1) := by decide +kernel
theorem dX11_holds_18 : decode cX11_holds 18 = .ok (.iload_n 3, 1) := by decide +kernel
theorem dX11_holds_19 : decode cX11_holds 19 = .ok (.iconst 5, 1) := by decide +kernel
theorem dX11_holds_20 : decode cX11_holds 20 = .ok (.if_icmp .ge 27, 3) := by decide +kernel
theorem dX11_holds_23 : decode cX11_holds 23 = .ok (.iload_n 2, 1) := by decide +kernel
theorem dX11_holds_24 : decode cX11_holds 24 = .ok (.aload_n 0, 1) := by decide +kernel
theorem dX11_holds_25 : decode cX11_holds 25 = .ok (.getfield 44, 3) := by decide +kernel
theorem dX11_holds_28 : decode cX11_holds 28 = .ok (.getfield 210, 3) := by decide +kernel
theorem dX11_holds_31 : decode cX11_holds 31 = .ok (.iload_n 3, 1) := by decide +kernel
theorem dX11_holds_32 : decode cX11_holds 32 = .ok (.iaload, 1) := by decide +kernel
theorem dX11_holds_33 : decode cX11_holds 33 = .ok (.iload_n 1, 1) := by decide +kernel
theorem dX11_holds_34 : decode cX11_holds 34 = .ok (.ishr, 1) := by decide +kernel
theorem dX11_holds_35 : decode cX11_holds 35 = .ok (.iconst 1, 1) := by decide +kernel
theorem dX11_holds_36 : decode cX11_holds 36 = .ok (.iand, 1) := by decide +kernel
theorem dX11_holds_37 : decode cX11_holds 37 = .ok (.iload_n 3, 1) := by decide +kernel
theorem dX11_holds_38 : decode cX11_holds 38 = .ok (.ishl, 1) := by decide +kernel
theorem dX11_holds_39 : decode cX11_holds 39 = .ok (.ior, 1) := by decide +kernel
theorem dX11_holds_40 : decode cX11_holds 40 = .ok (.istore_n 2, 1) := by decide +kernel
theorem dX11_holds_41 : decode cX11_holds 41 = .ok (.iinc 3 1, 3) := by decide +kernel
theorem dX11_holds_44 : decode cX11_holds 44 = .ok (.goto (-26), 3) := by decide +kernel
theorem dX11_holds_47 : decode cX11_holds 47 = .ok (.iload_n 2, 1) := by decide +kernel
theorem dX11_holds_48 : decode cX11_holds 48 = .ok (.ireturn, 1) := by decide +kernel
theorem dX11_slot_0 : decode cX11_slot 0 = .ok (.aload_n 0, 1) := by decide +kernel
theorem dX11_slot_1 : decode cX11_slot 1 = .ok (.iload_n 1, 1) := by decide +kernel
theorem dX11_slot_2 : decode cX11_slot 2 = .ok (.iload_n 2, 1) := by decide +kernel
theorem dX11_slot_3 : decode cX11_slot 3 = .ok (.invokevirtual 286, 3) := by decide +kernel
theorem dX11_slot_6 : decode cX11_slot 6 = .ok (.ifCond .eq 20, 3) := by decide +kernel
theorem dX11_slot_9 : decode cX11_slot 9 = .ok (.iload_n 3, 1) := by decide +kernel
theorem dX11_slot_10 : decode cX11_slot 10 = .ok (.ifCond .lt 16, 3) := by decide +kernel
theorem dX11_slot_13 : decode cX11_slot 13 = .ok (.iload_n 3, 1) := by decide +kernel
theorem dX11_slot_14 : decode cX11_slot 14 = .ok (.aload_n 0, 1) := by decide +kernel
theorem dX11_slot_15 : decode cX11_slot 15 = .ok (.getfield 19, 3) := by decide +kernel
theorem dX11_slot_18 : decode cX11_slot 18 = .ok (.getfield 195, 3) := by decide +kernel
theorem dX11_slot_21 : decode cX11_slot 21 = .ok (.iload_n 1, 1) := by decide +kernel
theorem dX11_slot_22 : decode cX11_slot 22 = .ok (.iaload, 1) := by decide +kernel
theorem dX11_slot_23 : decode cX11_slot 23 = .ok (.if_icmp .lt 5, 3) := by decide +kernel
theorem dX11_slot_26 : decode cX11_slot 26 = .ok (.iconst (-1), 1) := by decide +kernel
theorem dX11_slot_27 : decode cX11_slot 27 = .ok (.ireturn, 1) := by decide +kernel
theorem dX11_slot_28 : decode cX11_slot 28 = .ok (.aload_n 0, 1) := by decide +kernel
theorem dX11_slot_29 : decode cX11_slot 29 = .ok (.getfield 74, 3) := by decide +kernel
theorem dX11_slot_32 : decode cX11_slot 32 = .ok (.iload_n 1, 1) := by decide +kernel
theorem dX11_slot_33 : decode cX11_slot 33 = .ok (.iload_n 2, 1) := by decide +kernel
theorem dX11_slot_34 : decode cX11_slot 34 = .ok (.invokevirtual 295, 3) := by decide +kernel
theorem dX11_slot_37 : decode cX11_slot 37 = .ok (.aload_n 0, 1) := by decide +kernel
theorem dX11_slot_38 : decode cX11_slot 38 = .ok (.getfield 74, 3) := by decide +kernel
theorem dX11_slot_41 : decode cX11_slot 41 = .ok (.iload_n 3, 1) := by decide +kernel
theorem dX11_slot_42 : decode cX11_slot 42 = .ok (.invokevirtual 299, 3) := by decide +kernel
theorem dX11_slot_45 : decode cX11_slot 45 = .ok (.ireturn, 1) := by decide +kernel
theorem dX11_slots_0 : decode cX11_slots 0 = .ok (.aload_n 0, 1) := by decide +kernel
theorem dX11_slots_1 : decode cX11_slots 1 = .ok (.iload_n 1, 1) := by decide +kernel
theorem dX11_slots_2 : decode cX11_slots 2 = .ok (.iload_n 2, 1) := by decide +kernel
theorem dX11_slots_3 : decode cX11_slots 3 = .ok (.invokevirtual 286, 3) := by decide +kernel
theorem dX11_slots_6 : decode cX11_slots 6 = .ok (.ifCond .ne 5, 3) := by decide +kernel
theorem dX11_slots_9 : decode cX11_slots 9 = .ok (.iconst (-1), 1) := by decide +kernel
theorem dX11_slots_10 : decode cX11_slots 10 = .ok (.ireturn, 1) := by decide +kernel
theorem dX11_slots_11 : decode cX11_slots 11 = .ok (.aload_n 0, 1) := by decide +kernel
theorem dX11_slots_12 : decode cX11_slots 12 = .ok (.getfield 74, 3) := by decide +kernel
theorem dX11_slots_15 : decode cX11_slots 15 = .ok (.iload_n 1, 1) := by decide +kernel
theorem dX11_slots_16 : decode cX11_slots 16 = .ok (.iload_n 2, 1) := by decide +kernel
theorem dX11_slots_17 : decode cX11_slots 17 = .ok (.invokevirtual 295, 3) := by decide +kernel
theorem dX11_slots_20 : decode cX11_slots 20 = .ok (.aload_n 0, 1) := by decide +kernel
theorem dX11_slots_21 : decode cX11_slots 21 = .ok (.getfield 74, 3) := by decide +kernel
theorem dX11_slots_24 : decode cX11_slots 24 = .ok (.getfield 302, 3) := by decide +kernel
theorem dX11_slots_27 : decode cX11_slots 27 = .ok (.iload_n 2, 1) := by decide +kernel
theorem dX11_slots_28 : decode cX11_slots 28 = .ok (.iaload, 1) := by decide +kernel
theorem dX11_slots_29 : decode cX11_slots 29 = .ok (.ireturn, 1) := by decide +kernel
theorem dX11_host_0 : decode cX11_host 0 = .ok (.aload_n 0, 1) := by decide +kernel
theorem dX11_host_1 : decode cX11_host 1 = .ok (.iload_n 1, 1) := by decide +kernel
theorem dX11_host_2 : decode cX11_host 2 = .ok (.iload_n 2, 1) := by decide +kernel
theorem dX11_host_3 : decode cX11_host 3 = .ok (.invokevirtual 286, 3) := by decide +kernel
theorem dX11_host_6 : decode cX11_host 6 = .ok (.ifCond .eq 20, 3) := by decide +kernel
theorem dX11_host_9 : decode cX11_host 9 = .ok (.iload_n 3, 1) := by decide +kernel
theorem dX11_host_10 : decode cX11_host 10 = .ok (.ifCond .lt 16, 3) := by decide +kernel
theorem dX11_host_13 : decode cX11_host 13 = .ok (.aload_n 0, 1) := by decide +kernel
theorem dX11_host_14 : decode cX11_host 14 = .ok (.getfield 19, 3) := by decide +kernel
theorem dX11_host_17 : decode cX11_host 17 = .ok (.getfield 195, 3) := by decide +kernel
theorem dX11_host_20 : decode cX11_host 20 = .ok (.iload_n 1, 1) := by decide +kernel
theorem dX11_host_21 : decode cX11_host 21 = .ok (.iaload, 1) := by decide +kernel
theorem dX11_host_22 : decode cX11_host 22 = .ok (.iconst 1, 1) := by decide +kernel
theorem dX11_host_23 : decode cX11_host 23 = .ok (.if_icmp .ge 5, 3) := by decide +kernel
theorem dX11_host_26 : decode cX11_host 26 = .ok (.iconst (-1), 1) := by decide +kernel
theorem dX11_host_27 : decode cX11_host 27 = .ok (.ireturn, 1) := by decide +kernel
theorem dX11_host_28 : decode cX11_host 28 = .ok (.aload_n 0, 1) := by decide +kernel
theorem dX11_host_29 : decode cX11_host 29 = .ok (.getfield 74, 3) := by decide +kernel
theorem dX11_host_32 : decode cX11_host 32 = .ok (.iload_n 1, 1) := by decide +kernel
theorem dX11_host_33 : decode cX11_host 33 = .ok (.iload_n 2, 1) := by decide +kernel
theorem dX11_host_34 : decode cX11_host 34 = .ok (.invokevirtual 295, 3) := by decide +kernel
theorem dX11_host_37 : decode cX11_host 37 = .ok (.aload_n 0, 1) := by decide +kernel
theorem dX11_host_38 : decode cX11_host 38 = .ok (.getfield 74, 3) := by decide +kernel
theorem dX11_host_41 : decode cX11_host 41 = .ok (.iload_n 3, 1) := by decide +kernel
theorem dX11_host_42 : decode cX11_host 42 = .ok (.aload_n 0, 1) := by decide +kernel
theorem dX11_host_43 : decode cX11_host 43 = .ok (.getfield 19, 3) := by decide +kernel
theorem dX11_host_46 : decode cX11_host 46 = .ok (.getfield 195, 3) := by decide +kernel
theorem dX11_host_49 : decode cX11_host 49 = .ok (.iload_n 1, 1) := by decide +kernel
theorem dX11_host_50 : decode cX11_host 50 = .ok (.iaload, 1) := by decide +kernel
theorem dX11_host_51 : decode cX11_host 51 = .ok (.irem, 1) := by decide +kernel
theorem dX11_host_52 : decode cX11_host 52 = .ok (.invokevirtual 299, 3) := by decide +kernel
theorem dX11_host_55 : decode cX11_host 55 = .ok (.ireturn, 1) := by decide +kernel
theorem dX11_load_0 : decode cX11_load 0 = .ok (.aload_n 0, 1) := by decide +kernel
theorem dX11_load_1 : decode cX11_load 1 = .ok (.iload_n 1, 1) := by decide +kernel
theorem dX11_load_2 : decode cX11_load 2 = .ok (.iload_n 2, 1) := by decide +kernel
theorem dX11_load_3 : decode cX11_load 3 = .ok (.invokevirtual 286, 3) := by decide +kernel
theorem dX11_load_6 : decode cX11_load 6 = .ok (.ifCond .eq 15, 3) := by decide +kernel
theorem dX11_load_9 : decode cX11_load 9 = .ok (.iload_n 3, 1) := by decide +kernel
theorem dX11_load_10 : decode cX11_load 10 = .ok (.iconst 1, 1) := by decide +kernel
theorem dX11_load_11 : decode cX11_load 11 = .ok (.if_icmp .lt 10, 3) := by decide +kernel
theorem dX11_load_14 : decode cX11_load 14 = .ok (.iload_n 3, 1) := by decide +kernel
theorem dX11_load_15 : decode cX11_load 15 = .ok (.sipush 9999, 3) := by decide +kernel
theorem dX11_load_18 : decode cX11_load 18 = .ok (.if_icmp .le 5, 3) := by decide +kernel
theorem dX11_load_21 : decode cX11_load 21 = .ok (.iconst (-1), 1) := by decide +kernel
theorem dX11_load_22 : decode cX11_load 22 = .ok (.ireturn, 1) := by decide +kernel
theorem dX11_load_23 : decode cX11_load 23 = .ok (.aload_n 0, 1) := by decide +kernel
theorem dX11_load_24 : decode cX11_load 24 = .ok (.getfield 74, 3) := by decide +kernel
theorem dX11_load_27 : decode cX11_load 27 = .ok (.iload_n 1, 1) := by decide +kernel
theorem dX11_load_28 : decode cX11_load 28 = .ok (.iload_n 2, 1) := by decide +kernel
theorem dX11_load_29 : decode cX11_load 29 = .ok (.invokevirtual 295, 3) := by decide +kernel
theorem dX11_load_32 : decode cX11_load 32 = .ok (.aload_n 0, 1) := by decide +kernel
theorem dX11_load_33 : decode cX11_load 33 = .ok (.getfield 74, 3) := by decide +kernel
theorem dX11_load_36 : decode cX11_load 36 = .ok (.iload_n 1, 1) := by decide +kernel
theorem dX11_load_37 : decode cX11_load 37 = .ok (.iload_n 2, 1) := by decide +kernel
theorem dX11_load_38 : decode cX11_load 38 = .ok (.iload_n 3, 1) := by decide +kernel
theorem dX11_load_39 : decode cX11_load 39 = .ok (.invokevirtual 305, 3) := by decide +kernel
theorem dX11_load_42 : decode cX11_load 42 = .ok (.ireturn, 1) := by decide +kernel
theorem dX11_isWithin_0 : decode cX11_isWithin 0 = .ok (.aload_n 0, 1) := by decide +kernel
theorem dX11_isWithin_1 : decode cX11_isWithin 1 = .ok (.getfield 44, 3) := by decide +kernel
theorem dX11_isWithin_4 : decode cX11_isWithin 4 = .ok (.getfield 127, 3) := by decide +kernel
theorem dX11_isWithin_7 : decode cX11_isWithin 7 = .ok (.iload_n 1, 1) := by decide +kernel
theorem dX11_isWithin_8 : decode cX11_isWithin 8 = .ok (.iadd, 1) := by decide +kernel
theorem dX11_isWithin_9 : decode cX11_isWithin 9 = .ok (.sipush 9999, 3) := by decide +kernel
theorem dX11_isWithin_12 : decode cX11_isWithin 12 = .ok (.if_icmp .gt 7, 3) := by decide +kernel
theorem dX11_isWithin_15 : decode cX11_isWithin 15 = .ok (.iconst 1, 1) := by decide +kernel
theorem dX11_isWithin_16 : decode cX11_isWithin 16 = .ok (.goto 4, 3) := by decide +kernel
theorem dX11_isWithin_19 : decode cX11_isWithin 19 = .ok (.iconst 0, 1) := by decide +kernel
theorem dX11_isWithin_20 : decode cX11_isWithin 20 = .ok (.ireturn, 1) := by decide +kernel
theorem dX11_ahead_0 : decode cX11_ahead 0 = .ok (.aload_n 0, 1) := by decide +kernel
theorem dX11_ahead_1 : decode cX11_ahead 1 = .ok (.getfield 19, 3) := by decide +kernel
theorem dX11_ahead_4 : decode cX11_ahead 4 = .ok (.iload_n 1, 1) := by decide +kernel
theorem dX11_ahead_5 : decode cX11_ahead 5 = .ok (.invokevirtual 182, 3) := by decide +kernel
theorem dX11_ahead_8 : decode cX11_ahead 8 = .ok (.ifCond .eq 26, 3) := by decide +kernel
theorem dX11_ahead_11 : decode cX11_ahead 11 = .ok (.iload_n 2, 1) := by decide +kernel
theorem dX11_ahead_12 : decode cX11_ahead 12 = .ok (.ifCond .lt 22, 3) := by decide +kernel
theorem dX11_ahead_15 : decode cX11_ahead 15 = .ok (.iload_n 2, 1) := by decide +kernel
theorem dX11_ahead_16 : decode cX11_ahead 16 = .ok (.sipush 500, 3) := by decide +kernel
theorem dX11_ahead_19 : decode cX11_ahead 19 = .ok (.if_icmp .gt 15, 3) := by decide +kernel
theorem dX11_ahead_22 : decode cX11_ahead 22 = .ok (.aload_n 0, 1) := by decide +kernel
theorem dX11_ahead_23 : decode cX11_ahead 23 = .ok (.iload_n 2, 1) := by decide +kernel
theorem dX11_ahead_24 : decode cX11_ahead 24 = .ok (.invokevirtual 309, 3) := by decide +kernel
theorem dX11_ahead_27 : decode cX11_ahead 27 = .ok (.ifCond .eq 7, 3) := by decide +kernel
theorem dX11_ahead_30 : decode cX11_ahead 30 = .ok (.iconst 1, 1) := by decide +kernel
theorem dX11_ahead_31 : decode cX11_ahead 31 = .ok (.goto 4, 3) := by decide +kernel
theorem dX11_ahead_34 : decode cX11_ahead 34 = .ok (.iconst 0, 1) := by decide +kernel
theorem dX11_ahead_35 : decode cX11_ahead 35 = .ok (.istore_n 3, 1) := by decide +kernel
theorem dX11_ahead_36 : decode cX11_ahead 36 = .ok (.iload_n 3, 1) := by decide +kernel
theorem dX11_ahead_37 : decode cX11_ahead 37 = .ok (.ifCond .eq 15, 3) := by decide +kernel
theorem dX11_ahead_40 : decode cX11_ahead 40 = .ok (.aload_n 0, 1) := by decide +kernel
theorem dX11_ahead_41 : decode cX11_ahead 41 = .ok (.getfield 67, 3) := by decide +kernel
theorem dX11_ahead_44 : decode cX11_ahead 44 = .ok (.iload_n 1, 1) := by decide +kernel
theorem dX11_ahead_45 : decode cX11_ahead 45 = .ok (.iload_n 2, 1) := by decide +kernel
theorem dX11_ahead_46 : decode cX11_ahead 46 = .ok (.invokevirtual 312, 3) := by decide +kernel
theorem dX11_ahead_49 : decode cX11_ahead 49 = .ok (.goto 4, 3) := by decide +kernel
theorem dX11_ahead_52 : decode cX11_ahead 52 = .ok (.iconst (-1), 1) := by decide +kernel
theorem dX11_ahead_53 : decode cX11_ahead 53 = .ok (.ireturn, 1) := by decide +kernel
theorem dX11_fails_0 : decode cX11_fails 0 = .ok (.aload_n 0, 1) := by decide +kernel
theorem dX11_fails_1 : decode cX11_fails 1 = .ok (.iload_n 1, 1) := by decide +kernel
theorem dX11_fails_2 : decode cX11_fails 2 = .ok (.iload_n 2, 1) := by decide +kernel
theorem dX11_fails_3 : decode cX11_fails 3 = .ok (.invokevirtual 286, 3) := by decide +kernel
theorem dX11_fails_6 : decode cX11_fails 6 = .ok (.ifCond .eq 23, 3) := by decide +kernel
theorem dX11_fails_9 : decode cX11_fails 9 = .ok (.aload_n 0, 1) := by decide +kernel
theorem dX11_fails_10 : decode cX11_fails 10 = .ok (.getfield 44, 3) := by decide +kernel
theorem dX11_fails_13 : decode cX11_fails 13 = .ok (.iload_n 2, 1) := by decide +kernel
theorem dX11_fails_14 : decode cX11_fails 14 = .ok (.invokevirtual 263, 3) := by decide +kernel
theorem dX11_fails_17 : decode cX11_fails 17 = .ok (.ifCond .eq 12, 3) := by decide +kernel
theorem dX11_fails_20 : decode cX11_fails 20 = .ok (.iload_n 3, 1) := by decide +kernel
theorem dX11_fails_21 : decode cX11_fails 21 = .ok (.ifCond .lt 8, 3) := by decide +kernel
theorem dX11_fails_24 : decode cX11_fails 24 = .ok (.iload_n 3, 1) := by decide +kernel
theorem dX11_fails_25 : decode cX11_fails 25 = .ok (.iconst 1, 1) := by decide +kernel
theorem dX11_fails_26 : decode cX11_fails 26 = .ok (.if_icmp .le 5, 3) := by decide +kernel
theorem dX11_fails_29 : decode cX11_fails 29 = .ok (.iconst (-1), 1) := by decide +kernel
theorem dX11_fails_30 : decode cX11_fails 30 = .ok (.ireturn, 1) := by decide +kernel
theorem dX11_fails_31 : decode cX11_fails 31 = .ok (.aload_n 0, 1) := by decide +kernel
theorem dX11_fails_32 : decode cX11_fails 32 = .ok (.getfield 67, 3) := by decide +kernel
theorem dX11_fails_35 : decode cX11_fails 35 = .ok (.iload_n 1, 1) := by decide +kernel
theorem dX11_fails_36 : decode cX11_fails 36 = .ok (.iload_n 2, 1) := by decide +kernel
theorem dX11_fails_37 : decode cX11_fails 37 = .ok (.invokevirtual 315, 3) := by decide +kernel
theorem dX11_fails_40 : decode cX11_fails 40 = .ok (.istore 4, 2) := by decide +kernel
theorem dX11_fails_42 : decode cX11_fails 42 = .ok (.iload_n 3, 1) := by decide +kernel
theorem dX11_fails_43 : decode cX11_fails 43 = .ok (.ifCond .ne 8, 3) := by decide +kernel
theorem dX11_fails_46 : decode cX11_fails 46 = .ok (.iload 4, 2) := by decide +kernel
theorem dX11_fails_48 : decode cX11_fails 48 = .ok (.goto 12, 3) := by decide +kernel
theorem dX11_fails_51 : decode cX11_fails 51 = .ok (.aload_n 0, 1) := by decide +kernel
theorem dX11_fails_52 : decode cX11_fails 52 = .ok (.getfield 67, 3) := by decide +kernel
theorem dX11_fails_55 : decode cX11_fails 55 = .ok (.iload_n 1, 1) := by decide +kernel
theorem dX11_fails_56 : decode cX11_fails 56 = .ok (.iload_n 2, 1) := by decide +kernel
theorem dX11_fails_57 : decode cX11_fails 57 = .ok (.invokevirtual 318, 3) := by decide +kernel
theorem dX11_fails_60 : decode cX11_fails 60 = .ok (.ireturn, 1) := by decide +kernel
theorem dX11_worst_0 : decode cX11_worst 0 = .ok (.aload_n 0, 1) := by decide +kernel
theorem dX11_worst_1 : decode cX11_worst 1 = .ok (.getfield 19, 3) := by decide +kernel
theorem dX11_worst_4 : decode cX11_worst 4 = .ok (.iload_n 1, 1) := by decide +kernel
theorem dX11_worst_5 : decode cX11_worst 5 = .ok (.invokevirtual 182, 3) := by decide +kernel
theorem dX11_worst_8 : decode cX11_worst 8 = .ok (.ifCond .eq 12, 3) := by decide +kernel
theorem dX11_worst_11 : decode cX11_worst 11 = .ok (.iload_n 2, 1) := by decide +kernel
theorem dX11_worst_12 : decode cX11_worst 12 = .ok (.ifCond .lt 8, 3) := by decide +kernel
theorem dX11_worst_15 : decode cX11_worst 15 = .ok (.iload_n 2, 1) := by decide +kernel
theorem dX11_worst_16 : decode cX11_worst 16 = .ok (.iconst 1, 1) := by decide +kernel
theorem dX11_worst_17 : decode cX11_worst 17 = .ok (.if_icmp .le 5, 3) := by decide +kernel
theorem dX11_worst_20 : decode cX11_worst 20 = .ok (.iconst (-1), 1) := by decide +kernel
theorem dX11_worst_21 : decode cX11_worst 21 = .ok (.ireturn, 1) := by decide +kernel
theorem dX11_worst_22 : decode cX11_worst 22 = .ok (.iconst (-1), 1) := by decide +kernel
theorem dX11_worst_23 : decode cX11_worst 23 = .ok (.istore_n 3, 1) := by decide +kernel
theorem dX11_worst_24 : decode cX11_worst 24 = .ok (.iconst (-1), 1) := by decide +kernel
theorem dX11_worst_25 : decode cX11_worst 25 = .ok (.istore 4, 2) := by decide +kernel
theorem dX11_worst_27 : decode cX11_worst 27 = .ok (.aload_n 0, 1) := by decide +kernel
theorem dX11_worst_28 : decode cX11_worst 28 = .ok (.getfield 19, 3) := by decide +kernel
theorem dX11_worst_31 : decode cX11_worst 31 = .ok (.getfield 198, 3) := by decide +kernel
theorem dX11_worst_34 : decode cX11_worst 34 = .ok (.iload_n 1, 1) := by decide +kernel
theorem dX11_worst_35 : decode cX11_worst 35 = .ok (.iaload, 1) := by decide +kernel
theorem dX11_worst_36 : decode cX11_worst 36 = .ok (.aload_n 0, 1) := by decide +kernel
theorem dX11_worst_37 : decode cX11_worst 37 = .ok (.getfield 44, 3) := by decide +kernel
theorem dX11_worst_40 : decode cX11_worst 40 = .ok (.getfield 153, 3) := by decide +kernel
theorem dX11_worst_43 : decode cX11_worst 43 = .ok (.iand, 1) := by decide +kernel
theorem dX11_worst_44 : decode cX11_worst 44 = .ok (.istore 5, 2) := by decide +kernel
theorem dX11_worst_46 : decode cX11_worst 46 = .ok (.iconst 0, 1) := by decide +kernel
theorem dX11_worst_47 : decode cX11_worst 47 = .ok (.istore 6, 2) := by decide +kernel
theorem dX11_worst_49 : decode cX11_worst 49 = .ok (.iload 6, 2) := by decide +kernel
theorem dX11_worst_51 : decode cX11_worst 51 = .ok (.bipush 6, 2) := by decide +kernel
theorem dX11_worst_53 : decode cX11_worst 53 = .ok (.if_icmp .ge 64, 3) := by decide +kernel
theorem dX11_worst_56 : decode cX11_worst 56 = .ok (.iload 5, 2) := by decide +kernel
theorem dX11_worst_58 : decode cX11_worst 58 = .ok (.iload 6, 2) := by decide +kernel
theorem dX11_worst_60 : decode cX11_worst 60 = .ok (.ishr, 1) := by decide +kernel
theorem dX11_worst_61 : decode cX11_worst 61 = .ok (.iconst 1, 1) := by decide +kernel
theorem dX11_worst_62 : decode cX11_worst 62 = .ok (.iand, 1) := by decide +kernel
theorem dX11_worst_63 : decode cX11_worst 63 = .ok (.ifCond .ne 6, 3) := by decide +kernel
theorem dX11_worst_66 : decode cX11_worst 66 = .ok (.goto 45, 3) := by decide +kernel
theorem dX11_worst_69 : decode cX11_worst 69 = .ok (.aload_n 0, 1) := by decide +kernel
theorem dX11_worst_70 : decode cX11_worst 70 = .ok (.getfield 67, 3) := by decide +kernel
theorem dX11_worst_73 : decode cX11_worst 73 = .ok (.iload_n 1, 1) := by decide +kernel
theorem dX11_worst_74 : decode cX11_worst 74 = .ok (.iload 6, 2) := by decide +kernel
theorem dX11_worst_76 : decode cX11_worst 76 = .ok (.invokevirtual 315, 3) := by decide +kernel
theorem dX11_worst_79 : decode cX11_worst 79 = .ok (.istore 7, 2) := by decide +kernel
theorem dX11_worst_81 : decode cX11_worst 81 = .ok (.iload 7, 2) := by decide +kernel
theorem dX11_worst_83 : decode cX11_worst 83 = .ok (.iconst (-1), 1) := by decide +kernel
theorem dX11_worst_84 : decode cX11_worst 84 = .ok (.if_icmp .ne 14, 3) := by decide +kernel
theorem dX11_worst_87 : decode cX11_worst 87 = .ok (.iload_n 2, 1) := by decide +kernel
theorem dX11_worst_88 : decode cX11_worst 88 = .ok (.ifCond .ne 7, 3) := by decide +kernel
theorem dX11_worst_91 : decode cX11_worst 91 = .ok (.iconst (-1), 1) := by decide +kernel
theorem dX11_worst_92 : decode cX11_worst 92 = .ok (.goto 5, 3) := by decide +kernel
theorem dX11_worst_95 : decode cX11_worst 95 = .ok (.iload 6, 2) := by decide +kernel
theorem dX11_worst_97 : decode cX11_worst 97 = .ok (.ireturn, 1) := by decide +kernel
theorem dX11_worst_98 : decode cX11_worst 98 = .ok (.iload 7, 2) := by decide +kernel
theorem dX11_worst_100 : decode cX11_worst 100 = .ok (.iload_n 3, 1) := by decide +kernel
theorem dX11_worst_101 : decode cX11_worst 101 = .ok (.if_icmp .le 10, 3) := by decide +kernel
theorem dX11_worst_104 : decode cX11_worst 104 = .ok (.iload 7, 2) := by decide +kernel
theorem dX11_worst_106 : decode cX11_worst 106 = .ok (.istore_n 3, 1) := by decide +kernel
theorem dX11_worst_107 : decode cX11_worst 107 = .ok (.iload 6, 2) := by decide +kernel
theorem dX11_worst_109 : decode cX11_worst 109 = .ok (.istore 4, 2) := by decide +kernel
theorem dX11_worst_111 : decode cX11_worst 111 = .ok (.iinc 6 1, 3) := by decide +kernel
theorem dX11_worst_114 : decode cX11_worst 114 = .ok (.goto (-65), 3) := by decide +kernel
theorem dX11_worst_117 : decode cX11_worst 117 = .ok (.iload_n 2, 1) := by decide +kernel
theorem dX11_worst_118 : decode cX11_worst 118 = .ok (.ifCond .ne 7, 3) := by decide +kernel
theorem dX11_worst_121 : decode cX11_worst 121 = .ok (.iload_n 3, 1) := by decide +kernel
theorem dX11_worst_122 : decode cX11_worst 122 = .ok (.goto 5, 3) := by decide +kernel
theorem dX11_worst_125 : decode cX11_worst 125 = .ok (.iload 4, 2) := by decide +kernel
theorem dX11_worst_127 : decode cX11_worst 127 = .ok (.ireturn, 1) := by decide +kernel
theorem dX11_settles_0 : decode cX11_settles 0 = .ok (.aload_n 0, 1) := by decide +kernel
theorem dX11_settles_1 : decode cX11_settles 1 = .ok (.getfield 19, 3) := by decide +kernel
theorem dX11_settles_4 : decode cX11_settles 4 = .ok (.getfield 97, 3) := by decide +kernel
theorem dX11_settles_7 : decode cX11_settles 7 = .ok (.ifCond .eq 23, 3) := by decide +kernel
theorem dX11_settles_10 : decode cX11_settles 10 = .ok (.aload_n 0, 1) := by decide +kernel
theorem dX11_settles_11 : decode cX11_settles 11 = .ok (.sipush 600, 3) := by decide +kernel
theorem dX11_settles_14 : decode cX11_settles 14 = .ok (.invokevirtual 309, 3) := by decide +kernel
theorem dX11_settles_17 : decode cX11_settles 17 = .ok (.ifCond .eq 13, 3) := by decide +kernel
theorem dX11_settles_20 : decode cX11_settles 20 = .ok (.aload_n 0, 1) := by decide +kernel
theorem dX11_settles_21 : decode cX11_settles 21 = .ok (.getfield 67, 3) := by decide +kernel
theorem dX11_settles_24 : decode cX11_settles 24 = .ok (.invokevirtual 321, 3) := by decide +kernel
theorem dX11_settles_27 : decode cX11_settles 27 = .ok (.goto 4, 3) := by decide +kernel
theorem dX11_settles_30 : decode cX11_settles 30 = .ok (.iconst (-1), 1) := by decide +kernel
theorem dX11_settles_31 : decode cX11_settles 31 = .ok (.ireturn, 1) := by decide +kernel
theorem dX11_least_0 : decode cX11_least 0 = .ok (.aload_n 0, 1) := by decide +kernel
theorem dX11_least_1 : decode cX11_least 1 = .ok (.getfield 19, 3) := by decide +kernel
theorem dX11_least_4 : decode cX11_least 4 = .ok (.iload_n 1, 1) := by decide +kernel
theorem dX11_least_5 : decode cX11_least 5 = .ok (.iload_n 2, 1) := by decide +kernel
theorem dX11_least_6 : decode cX11_least 6 = .ok (.invokevirtual 213, 3) := by decide +kernel
theorem dX11_least_9 : decode cX11_least 9 = .ok (.ifCond .eq 25, 3) := by decide +kernel
theorem dX11_least_12 : decode cX11_least 12 = .ok (.aload_n 0, 1) := by decide +kernel
theorem dX11_least_13 : decode cX11_least 13 = .ok (.sipush 300, 3) := by decide +kernel
theorem dX11_least_16 : decode cX11_least 16 = .ok (.invokevirtual 309, 3) := by decide +kernel
theorem dX11_least_19 : decode cX11_least 19 = .ok (.ifCond .eq 15, 3) := by decide +kernel
theorem dX11_least_22 : decode cX11_least 22 = .ok (.aload_n 0, 1) := by decide +kernel
theorem dX11_least_23 : decode cX11_least 23 = .ok (.getfield 67, 3) := by decide +kernel
theorem dX11_least_26 : decode cX11_least 26 = .ok (.iload_n 1, 1) := by decide +kernel
theorem dX11_least_27 : decode cX11_least 27 = .ok (.iload_n 2, 1) := by decide +kernel
theorem dX11_least_28 : decode cX11_least 28 = .ok (.invokevirtual 324, 3) := by decide +kernel
theorem dX11_least_31 : decode cX11_least 31 = .ok (.goto 4, 3) := by decide +kernel
theorem dX11_least_34 : decode cX11_least 34 = .ok (.iconst (-1), 1) := by decide +kernel
theorem dX11_least_35 : decode cX11_least 35 = .ok (.ireturn, 1) := by decide +kernel
theorem dX11_isSpan_0 : decode cX11_isSpan 0 = .ok (.iload_n 1, 1) := by decide +kernel
theorem dX11_isSpan_1 : decode cX11_isSpan 1 = .ok (.iconst 1, 1) := by decide +kernel
theorem dX11_isSpan_2 : decode cX11_isSpan 2 = .ok (.if_icmp .lt 22, 3) := by decide +kernel
theorem dX11_isSpan_5 : decode cX11_isSpan 5 = .ok (.iload_n 1, 1) := by decide +kernel
theorem dX11_isSpan_6 : decode cX11_isSpan 6 = .ok (.sipush 500, 3) := by decide +kernel
theorem dX11_isSpan_9 : decode cX11_isSpan 9 = .ok (.if_icmp .gt 15, 3) := by decide +kernel
theorem dX11_isSpan_12 : decode cX11_isSpan 12 = .ok (.aload_n 0, 1) := by decide +kernel
theorem dX11_isSpan_13 : decode cX11_isSpan 13 = .ok (.iload_n 1, 1) := by decide +kernel
theorem dX11_isSpan_14 : decode cX11_isSpan 14 = .ok (.invokevirtual 309, 3) := by decide +kernel
theorem dX11_isSpan_17 : decode cX11_isSpan 17 = .ok (.ifCond .eq 7, 3) := by decide +kernel
theorem dX11_isSpan_20 : decode cX11_isSpan 20 = .ok (.iconst 1, 1) := by decide +kernel
theorem dX11_isSpan_21 : decode cX11_isSpan 21 = .ok (.goto 4, 3) := by decide +kernel
theorem dX11_isSpan_24 : decode cX11_isSpan 24 = .ok (.iconst 0, 1) := by decide +kernel
theorem dX11_isSpan_25 : decode cX11_isSpan 25 = .ok (.ireturn, 1) := by decide +kernel
theorem dX11_flaps_0 : decode cX11_flaps 0 = .ok (.aload_n 0, 1) := by decide +kernel
theorem dX11_flaps_1 : decode cX11_flaps 1 = .ok (.getfield 19, 3) := by decide +kernel
theorem dX11_flaps_4 : decode cX11_flaps 4 = .ok (.iload_n 1, 1) := by decide +kernel
theorem dX11_flaps_5 : decode cX11_flaps 5 = .ok (.invokevirtual 182, 3) := by decide +kernel
theorem dX11_flaps_8 : decode cX11_flaps 8 = .ok (.ifCond .eq 23, 3) := by decide +kernel
theorem dX11_flaps_11 : decode cX11_flaps 11 = .ok (.aload_n 0, 1) := by decide +kernel
theorem dX11_flaps_12 : decode cX11_flaps 12 = .ok (.iload_n 2, 1) := by decide +kernel
theorem dX11_flaps_13 : decode cX11_flaps 13 = .ok (.invokevirtual 327, 3) := by decide +kernel
theorem dX11_flaps_16 : decode cX11_flaps 16 = .ok (.ifCond .eq 15, 3) := by decide +kernel
theorem dX11_flaps_19 : decode cX11_flaps 19 = .ok (.aload_n 0, 1) := by decide +kernel
theorem dX11_flaps_20 : decode cX11_flaps 20 = .ok (.getfield 67, 3) := by decide +kernel
theorem dX11_flaps_23 : decode cX11_flaps 23 = .ok (.iload_n 1, 1) := by decide +kernel
theorem dX11_flaps_24 : decode cX11_flaps 24 = .ok (.iload_n 2, 1) := by decide +kernel
theorem dX11_flaps_25 : decode cX11_flaps 25 = .ok (.invokevirtual 330, 3) := by decide +kernel
theorem dX11_flaps_28 : decode cX11_flaps 28 = .ok (.goto 4, 3) := by decide +kernel
theorem dX11_flaps_31 : decode cX11_flaps 31 = .ok (.iconst (-1), 1) := by decide +kernel
theorem dX11_flaps_32 : decode cX11_flaps 32 = .ok (.ireturn, 1) := by decide +kernel
theorem dX11_needs_0 : decode cX11_needs 0 = .ok (.aload_n 0, 1) := by decide +kernel
theorem dX11_needs_1 : decode cX11_needs 1 = .ok (.iload_n 1, 1) := by decide +kernel
theorem dX11_needs_2 : decode cX11_needs 2 = .ok (.iload_n 2, 1) := by decide +kernel
theorem dX11_needs_3 : decode cX11_needs 3 = .ok (.invokevirtual 286, 3) := by decide +kernel
theorem dX11_needs_6 : decode cX11_needs 6 = .ok (.ifCond .eq 13, 3) := by decide +kernel
theorem dX11_needs_9 : decode cX11_needs 9 = .ok (.aload_n 0, 1) := by decide +kernel
theorem dX11_needs_10 : decode cX11_needs 10 = .ok (.sipush 300, 3) := by decide +kernel
theorem dX11_needs_13 : decode cX11_needs 13 = .ok (.invokevirtual 309, 3) := by decide +kernel
theorem dX11_needs_16 : decode cX11_needs 16 = .ok (.ifCond .ne 5, 3) := by decide +kernel
theorem dX11_needs_19 : decode cX11_needs 19 = .ok (.iconst (-1), 1) := by decide +kernel
theorem dX11_needs_20 : decode cX11_needs 20 = .ok (.ireturn, 1) := by decide +kernel
theorem dX11_needs_21 : decode cX11_needs 21 = .ok (.aload_n 0, 1) := by decide +kernel
theorem dX11_needs_22 : decode cX11_needs 22 = .ok (.getfield 67, 3) := by decide +kernel
theorem dX11_needs_25 : decode cX11_needs 25 = .ok (.iload_n 1, 1) := by decide +kernel
theorem dX11_needs_26 : decode cX11_needs 26 = .ok (.iload_n 2, 1) := by decide +kernel
theorem dX11_needs_27 : decode cX11_needs 27 = .ok (.aload_n 0, 1) := by decide +kernel
theorem dX11_needs_28 : decode cX11_needs 28 = .ok (.getfield 44, 3) := by decide +kernel
theorem dX11_needs_31 : decode cX11_needs 31 = .ok (.getfield 156, 3) := by decide +kernel
theorem dX11_needs_34 : decode cX11_needs 34 = .ok (.invokevirtual 333, 3) := by decide +kernel
theorem dX11_needs_37 : decode cX11_needs 37 = .ok (.istore_n 3, 1) := by decide +kernel
theorem dX11_needs_38 : decode cX11_needs 38 = .ok (.iconst 0, 1) := by decide +kernel
theorem dX11_needs_39 : decode cX11_needs 39 = .ok (.istore 4, 2) := by decide +kernel
theorem dX11_needs_41 : decode cX11_needs 41 = .ok (.iconst 0, 1) := by decide +kernel
theorem dX11_needs_42 : decode cX11_needs 42 = .ok (.istore 5, 2) := by decide +kernel
theorem dX11_needs_44 : decode cX11_needs 44 = .ok (.iload 5, 2) := by decide +kernel
theorem dX11_needs_46 : decode cX11_needs 46 = .ok (.aload_n 0, 1) := by decide +kernel
theorem dX11_needs_47 : decode cX11_needs 47 = .ok (.getfield 19, 3) := by decide +kernel
theorem dX11_needs_50 : decode cX11_needs 50 = .ok (.getfield 107, 3) := by decide +kernel
theorem dX11_needs_53 : decode cX11_needs 53 = .ok (.iconst 1, 1) := by decide +kernel
theorem dX11_needs_54 : decode cX11_needs 54 = .ok (.iaload, 1) := by decide +kernel
theorem dX11_needs_55 : decode cX11_needs 55 = .ok (.if_icmp .ge 59, 3) := by decide +kernel
theorem dX11_needs_58 : decode cX11_needs 58 = .ok (.aload_n 0, 1) := by decide +kernel
theorem dX11_needs_59 : decode cX11_needs 59 = .ok (.getfield 44, 3) := by decide +kernel
theorem dX11_needs_62 : decode cX11_needs 62 = .ok (.getfield 156, 3) := by decide +kernel
theorem dX11_needs_65 : decode cX11_needs 65 = .ok (.iconst 1, 1) := by decide +kernel
theorem dX11_needs_66 : decode cX11_needs 66 = .ok (.iload 5, 2) := by decide +kernel
theorem dX11_needs_68 : decode cX11_needs 68 = .ok (.ishl, 1) := by decide +kernel
theorem dX11_needs_69 : decode cX11_needs 69 = .ok (.ior, 1) := by decide +kernel
theorem dX11_needs_70 : decode cX11_needs 70 = .ok (.istore 6, 2) := by decide +kernel
theorem dX11_needs_72 : decode cX11_needs 72 = .ok (.iload 6, 2) := by decide +kernel
theorem dX11_needs_74 : decode cX11_needs 74 = .ok (.aload_n 0, 1) := by decide +kernel
theorem dX11_needs_75 : decode cX11_needs 75 = .ok (.getfield 44, 3) := by decide +kernel
theorem dX11_needs_78 : decode cX11_needs 78 = .ok (.getfield 156, 3) := by decide +kernel
theorem dX11_needs_81 : decode cX11_needs 81 = .ok (.if_icmp .eq 27, 3) := by decide +kernel
theorem dX11_needs_84 : decode cX11_needs 84 = .ok (.aload_n 0, 1) := by decide +kernel
theorem dX11_needs_85 : decode cX11_needs 85 = .ok (.getfield 67, 3) := by decide +kernel
theorem dX11_needs_88 : decode cX11_needs 88 = .ok (.iload_n 1, 1) := by decide +kernel
theorem dX11_needs_89 : decode cX11_needs 89 = .ok (.iload_n 2, 1) := by decide +kernel
theorem dX11_needs_90 : decode cX11_needs 90 = .ok (.iload 6, 2) := by decide +kernel
theorem dX11_needs_92 : decode cX11_needs 92 = .ok (.invokevirtual 333, 3) := by decide +kernel
theorem dX11_needs_95 : decode cX11_needs 95 = .ok (.iload_n 3, 1) := by decide +kernel
theorem dX11_needs_96 : decode cX11_needs 96 = .ok (.if_icmp .eq 12, 3) := by decide +kernel
theorem dX11_needs_99 : decode cX11_needs 99 = .ok (.iload 4, 2) := by decide +kernel
theorem dX11_needs_101 : decode cX11_needs 101 = .ok (.iconst 1, 1) := by decide +kernel
theorem dX11_needs_102 : decode cX11_needs 102 = .ok (.iload 5, 2) := by decide +kernel
theorem dX11_needs_104 : decode cX11_needs 104 = .ok (.ishl, 1) := by decide +kernel
theorem dX11_needs_105 : decode cX11_needs 105 = .ok (.ior, 1) := by decide +kernel
theorem dX11_needs_106 : decode cX11_needs 106 = .ok (.istore 4, 2) := by decide +kernel
theorem dX11_needs_108 : decode cX11_needs 108 = .ok (.iinc 5 1, 3) := by decide +kernel
theorem dX11_needs_111 : decode cX11_needs 111 = .ok (.goto (-67), 3) := by decide +kernel
theorem dX11_needs_114 : decode cX11_needs 114 = .ok (.iload 4, 2) := by decide +kernel
theorem dX11_needs_116 : decode cX11_needs 116 = .ok (.ireturn, 1) := by decide +kernel
theorem dX11_letters_0 : decode cX11_letters 0 = .ok (.aload_n 0, 1) := by decide +kernel
theorem dX11_letters_1 : decode cX11_letters 1 = .ok (.getfield 19, 3) := by decide +kernel
theorem dX11_letters_4 : decode cX11_letters 4 = .ok (.getfield 97, 3) := by decide +kernel
theorem dX11_letters_7 : decode cX11_letters 7 = .ok (.ifCond .eq 22, 3) := by decide +kernel
theorem dX11_letters_10 : decode cX11_letters 10 = .ok (.aload_n 0, 1) := by decide +kernel
theorem dX11_letters_11 : decode cX11_letters 11 = .ok (.iload_n 1, 1) := by decide +kernel
theorem dX11_letters_12 : decode cX11_letters 12 = .ok (.invokevirtual 327, 3) := by decide +kernel
theorem dX11_letters_15 : decode cX11_letters 15 = .ok (.ifCond .eq 14, 3) := by decide +kernel
theorem dX11_letters_18 : decode cX11_letters 18 = .ok (.aload_n 0, 1) := by decide +kernel
theorem dX11_letters_19 : decode cX11_letters 19 = .ok (.getfield 67, 3) := by decide +kernel
theorem dX11_letters_22 : decode cX11_letters 22 = .ok (.iload_n 1, 1) := by decide +kernel
theorem dX11_letters_23 : decode cX11_letters 23 = .ok (.invokevirtual 336, 3) := by decide +kernel
theorem dX11_letters_26 : decode cX11_letters 26 = .ok (.goto 4, 3) := by decide +kernel
theorem dX11_letters_29 : decode cX11_letters 29 = .ok (.iconst (-1), 1) := by decide +kernel
theorem dX11_letters_30 : decode cX11_letters 30 = .ok (.ireturn, 1) := by decide +kernel
theorem dX11_stands_0 : decode cX11_stands 0 = .ok (.aload_n 0, 1) := by decide +kernel
theorem dX11_stands_1 : decode cX11_stands 1 = .ok (.getfield 19, 3) := by decide +kernel
theorem dX11_stands_4 : decode cX11_stands 4 = .ok (.iload_n 1, 1) := by decide +kernel
theorem dX11_stands_5 : decode cX11_stands 5 = .ok (.iload_n 2, 1) := by decide +kernel
theorem dX11_stands_6 : decode cX11_stands 6 = .ok (.invokevirtual 213, 3) := by decide +kernel
theorem dX11_stands_9 : decode cX11_stands 9 = .ok (.ifCond .eq 24, 3) := by decide +kernel
theorem dX11_stands_12 : decode cX11_stands 12 = .ok (.aload_n 0, 1) := by decide +kernel
theorem dX11_stands_13 : decode cX11_stands 13 = .ok (.iload_n 3, 1) := by decide +kernel
theorem dX11_stands_14 : decode cX11_stands 14 = .ok (.invokevirtual 327, 3) := by decide +kernel
