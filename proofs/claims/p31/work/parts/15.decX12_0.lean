theorem dX12_isIn_0 : decode cX12_isIn 0 = .ok (.lload_n 0, 1) := by decide +kernel
theorem dX12_isIn_1 : decode cX12_isIn 1 = .ok (.lload_n 2, 1) := by decide +kernel
theorem dX12_isIn_2 : decode cX12_isIn 2 = .ok (.lcmp, 1) := by decide +kernel
theorem dX12_isIn_3 : decode cX12_isIn 3 = .ok (.ifCond .lt 14, 3) := by decide +kernel
theorem dX12_isIn_6 : decode cX12_isIn 6 = .ok (.lload_n 0, 1) := by decide +kernel
theorem dX12_isIn_7 : decode cX12_isIn 7 = .ok (.lload 4, 2) := by decide +kernel
theorem dX12_isIn_9 : decode cX12_isIn 9 = .ok (.lcmp, 1) := by decide +kernel
theorem dX12_isIn_10 : decode cX12_isIn 10 = .ok (.ifCond .gt 7, 3) := by decide +kernel
theorem dX12_isIn_13 : decode cX12_isIn 13 = .ok (.iconst 1, 1) := by decide +kernel
theorem dX12_isIn_14 : decode cX12_isIn 14 = .ok (.goto 4, 3) := by decide +kernel
theorem dX12_isIn_17 : decode cX12_isIn 17 = .ok (.iconst 0, 1) := by decide +kernel
theorem dX12_isIn_18 : decode cX12_isIn 18 = .ok (.ireturn, 1) := by decide +kernel
theorem dX12_flag_0 : decode cX12_flag 0 = .ok (.iload_n 0, 1) := by decide +kernel
theorem dX12_flag_1 : decode cX12_flag 1 = .ok (.ifCond .eq 7, 3) := by decide +kernel
theorem dX12_flag_4 : decode cX12_flag 4 = .ok (.iconst 1, 1) := by decide +kernel
theorem dX12_flag_5 : decode cX12_flag 5 = .ok (.goto 4, 3) := by decide +kernel
theorem dX12_flag_8 : decode cX12_flag 8 = .ok (.iconst 0, 1) := by decide +kernel
theorem dX12_flag_9 : decode cX12_flag 9 = .ok (.ireturn, 1) := by decide +kernel
theorem dX12_isOf_0 : decode cX12_isOf 0 = .ok (.iload_n 0, 1) := by decide +kernel
theorem dX12_isOf_1 : decode cX12_isOf 1 = .ok (.iload_n 1, 1) := by decide +kernel
theorem dX12_isOf_2 : decode cX12_isOf 2 = .ok (.ishr, 1) := by decide +kernel
theorem dX12_isOf_3 : decode cX12_isOf 3 = .ok (.iconst 1, 1) := by decide +kernel
theorem dX12_isOf_4 : decode cX12_isOf 4 = .ok (.iand, 1) := by decide +kernel
theorem dX12_isOf_5 : decode cX12_isOf 5 = .ok (.iconst 1, 1) := by decide +kernel
theorem dX12_isOf_6 : decode cX12_isOf 6 = .ok (.if_icmp .ne 7, 3) := by decide +kernel
theorem dX12_isOf_9 : decode cX12_isOf 9 = .ok (.iconst 1, 1) := by decide +kernel
theorem dX12_isOf_10 : decode cX12_isOf 10 = .ok (.goto 4, 3) := by decide +kernel
theorem dX12_isOf_13 : decode cX12_isOf 13 = .ok (.iconst 0, 1) := by decide +kernel
theorem dX12_isOf_14 : decode cX12_isOf 14 = .ok (.ireturn, 1) := by decide +kernel
theorem dX12_greater_0 : decode cX12_greater 0 = .ok (.iload_n 0, 1) := by decide +kernel
theorem dX12_greater_1 : decode cX12_greater 1 = .ok (.iload_n 1, 1) := by decide +kernel
theorem dX12_greater_2 : decode cX12_greater 2 = .ok (.if_icmp .le 7, 3) := by decide +kernel
theorem dX12_greater_5 : decode cX12_greater 5 = .ok (.iload_n 0, 1) := by decide +kernel
theorem dX12_greater_6 : decode cX12_greater 6 = .ok (.goto 4, 3) := by decide +kernel
theorem dX12_greater_9 : decode cX12_greater 9 = .ok (.iload_n 1, 1) := by decide +kernel
theorem dX12_greater_10 : decode cX12_greater 10 = .ok (.ireturn, 1) := by decide +kernel
theorem dX12_lesser_0 : decode cX12_lesser 0 = .ok (.iload_n 0, 1) := by decide +kernel
theorem dX12_lesser_1 : decode cX12_lesser 1 = .ok (.iload_n 1, 1) := by decide +kernel
theorem dX12_lesser_2 : decode cX12_lesser 2 = .ok (.if_icmp .ge 7, 3) := by decide +kernel
theorem dX12_lesser_5 : decode cX12_lesser 5 = .ok (.iload_n 0, 1) := by decide +kernel
theorem dX12_lesser_6 : decode cX12_lesser 6 = .ok (.goto 4, 3) := by decide +kernel
theorem dX12_lesser_9 : decode cX12_lesser 9 = .ok (.iload_n 1, 1) := by decide +kernel
theorem dX12_lesser_10 : decode cX12_lesser 10 = .ok (.ireturn, 1) := by decide +kernel
theorem dX12_puts_0 : decode cX12_puts 0 = .ok (.bipush 24, 2) := by decide +kernel
theorem dX12_puts_2 : decode cX12_puts 2 = .ok (.istore_n 2, 1) := by decide +kernel
theorem dX12_puts_3 : decode cX12_puts 3 = .ok (.iload_n 2, 1) := by decide +kernel
theorem dX12_puts_4 : decode cX12_puts 4 = .ok (.ifCond .lt 32, 3) := by decide +kernel
theorem dX12_puts_7 : decode cX12_puts 7 = .ok (.aload_n 0, 1) := by decide +kernel
theorem dX12_puts_8 : decode cX12_puts 8 = .ok (.getfield 7, 3) := by decide +kernel
theorem dX12_puts_11 : decode cX12_puts 11 = .ok (.aload_n 0, 1) := by decide +kernel
theorem dX12_puts_12 : decode cX12_puts 12 = .ok (.getfield 49, 3) := by decide +kernel
theorem dX12_puts_15 : decode cX12_puts 15 = .ok (.iload_n 1, 1) := by decide +kernel
theorem dX12_puts_16 : decode cX12_puts 16 = .ok (.iload_n 2, 1) := by decide +kernel
theorem dX12_puts_17 : decode cX12_puts 17 = .ok (.ishr, 1) := by decide +kernel
theorem dX12_puts_18 : decode cX12_puts 18 = .ok (.i2b, 1) := by decide +kernel
theorem dX12_puts_19 : decode cX12_puts 19 = .ok (.bastore, 1) := by decide +kernel
theorem dX12_puts_20 : decode cX12_puts 20 = .ok (.aload_n 0, 1) := by decide +kernel
theorem dX12_puts_21 : decode cX12_puts 21 = .ok (.dup, 1) := by decide +kernel
theorem dX12_puts_22 : decode cX12_puts 22 = .ok (.getfield 49, 3) := by decide +kernel
theorem dX12_puts_25 : decode cX12_puts 25 = .ok (.iconst 1, 1) := by decide +kernel
theorem dX12_puts_26 : decode cX12_puts 26 = .ok (.iadd, 1) := by decide +kernel
theorem dX12_puts_27 : decode cX12_puts 27 = .ok (.putfield 49, 3) := by decide +kernel
theorem dX12_puts_30 : decode cX12_puts 30 = .ok (.iinc 2 (-8), 3) := by decide +kernel
theorem dX12_puts_33 : decode cX12_puts 33 = .ok (.goto (-30), 3) := by decide +kernel
theorem dX12_puts_36 : decode cX12_puts 36 = .ok (.return_, 1) := by decide +kernel
theorem dX12_feed_0 : decode cX12_feed 0 = .ok (.aload_n 0, 1) := by decide +kernel
theorem dX12_feed_1 : decode cX12_feed 1 = .ok (.iconst 0, 1) := by decide +kernel
theorem dX12_feed_2 : decode cX12_feed 2 = .ok (.putfield 46, 3) := by decide +kernel
theorem dX12_feed_5 : decode cX12_feed 5 = .ok (.aload_n 0, 1) := by decide +kernel
theorem dX12_feed_6 : decode cX12_feed 6 = .ok (.getfield 49, 3) := by decide +kernel
theorem dX12_feed_9 : decode cX12_feed 9 = .ok (.bipush 20, 2) := by decide +kernel
theorem dX12_feed_11 : decode cX12_feed 11 = .ok (.iadd, 1) := by decide +kernel
theorem dX12_feed_12 : decode cX12_feed 12 = .ok (.sipush 1500, 3) := by decide +kernel
theorem dX12_feed_15 : decode cX12_feed 15 = .ok (.if_icmp .le 5, 3) := by decide +kernel
theorem dX12_feed_18 : decode cX12_feed 18 = .ok (.iconst (-1), 1) := by decide +kernel
theorem dX12_feed_19 : decode cX12_feed 19 = .ok (.ireturn, 1) := by decide +kernel
theorem dX12_feed_20 : decode cX12_feed 20 = .ok (.aload_n 0, 1) := by decide +kernel
theorem dX12_feed_21 : decode cX12_feed 21 = .ok (.iload_n 1, 1) := by decide +kernel
theorem dX12_feed_22 : decode cX12_feed 22 = .ok (.invokevirtual 52, 3) := by decide +kernel
theorem dX12_feed_25 : decode cX12_feed 25 = .ok (.aload_n 0, 1) := by decide +kernel
theorem dX12_feed_26 : decode cX12_feed 26 = .ok (.iload_n 2, 1) := by decide +kernel
theorem dX12_feed_27 : decode cX12_feed 27 = .ok (.invokevirtual 52, 3) := by decide +kernel
theorem dX12_feed_30 : decode cX12_feed 30 = .ok (.aload_n 0, 1) := by decide +kernel
theorem dX12_feed_31 : decode cX12_feed 31 = .ok (.iload_n 3, 1) := by decide +kernel
theorem dX12_feed_32 : decode cX12_feed 32 = .ok (.invokevirtual 52, 3) := by decide +kernel
theorem dX12_feed_35 : decode cX12_feed 35 = .ok (.aload_n 0, 1) := by decide +kernel
theorem dX12_feed_36 : decode cX12_feed 36 = .ok (.iload 4, 2) := by decide +kernel
theorem dX12_feed_38 : decode cX12_feed 38 = .ok (.invokevirtual 52, 3) := by decide +kernel
theorem dX12_feed_41 : decode cX12_feed 41 = .ok (.aload_n 0, 1) := by decide +kernel
theorem dX12_feed_42 : decode cX12_feed 42 = .ok (.iload 5, 2) := by decide +kernel
theorem dX12_feed_44 : decode cX12_feed 44 = .ok (.invokevirtual 52, 3) := by decide +kernel
theorem dX12_feed_47 : decode cX12_feed 47 = .ok (.aload_n 0, 1) := by decide +kernel
theorem dX12_feed_48 : decode cX12_feed 48 = .ok (.getfield 49, 3) := by decide +kernel
theorem dX12_feed_51 : decode cX12_feed 51 = .ok (.ireturn, 1) := by decide +kernel
theorem dX12_end_0 : decode cX12_end 0 = .ok (.aload_n 0, 1) := by decide +kernel
theorem dX12_end_1 : decode cX12_end 1 = .ok (.iconst 0, 1) := by decide +kernel
theorem dX12_end_2 : decode cX12_end 2 = .ok (.putfield 46, 3) := by decide +kernel
theorem dX12_end_5 : decode cX12_end 5 = .ok (.iload_n 1, 1) := by decide +kernel
theorem dX12_end_6 : decode cX12_end 6 = .ok (.i2l, 1) := by decide +kernel
theorem dX12_end_7 : decode cX12_end 7 = .ok (.lconst 0, 1) := by decide +kernel
theorem dX12_end_8 : decode cX12_end 8 = .ok (.aload_n 0, 1) := by decide +kernel
theorem dX12_end_9 : decode cX12_end 9 = .ok (.getfield 49, 3) := by decide +kernel
theorem dX12_end_12 : decode cX12_end 12 = .ok (.i2l, 1) := by decide +kernel
theorem dX12_end_13 : decode cX12_end 13 = .ok (.invokestatic 56, 3) := by decide +kernel
theorem dX12_end_16 : decode cX12_end 16 = .ok (.ifCond .ne 5, 3) := by decide +kernel
theorem dX12_end_19 : decode cX12_end 19 = .ok (.iconst 0, 1) := by decide +kernel
theorem dX12_end_20 : decode cX12_end 20 = .ok (.ireturn, 1) := by decide +kernel
theorem dX12_end_21 : decode cX12_end 21 = .ok (.aload_n 0, 1) := by decide +kernel
theorem dX12_end_22 : decode cX12_end 22 = .ok (.iload_n 1, 1) := by decide +kernel
theorem dX12_end_23 : decode cX12_end 23 = .ok (.putfield 49, 3) := by decide +kernel
theorem dX12_end_26 : decode cX12_end 26 = .ok (.iconst 1, 1) := by decide +kernel
theorem dX12_end_27 : decode cX12_end 27 = .ok (.ireturn, 1) := by decide +kernel
theorem dX12_isOwn_0 : decode cX12_isOwn 0 = .ok (.iload_n 0, 1) := by decide +kernel
theorem dX12_isOwn_1 : decode cX12_isOwn 1 = .ok (.ldc 60, 2) := by decide +kernel
theorem dX12_isOwn_3 : decode cX12_isOwn 3 = .ok (.if_icmp .eq 64, 3) := by decide +kernel
theorem dX12_isOwn_6 : decode cX12_isOwn 6 = .ok (.iload_n 0, 1) := by decide +kernel
theorem dX12_isOwn_7 : decode cX12_isOwn 7 = .ok (.ldc 61, 2) := by decide +kernel
theorem dX12_isOwn_9 : decode cX12_isOwn 9 = .ok (.if_icmp .eq 58, 3) := by decide +kernel
theorem dX12_isOwn_12 : decode cX12_isOwn 12 = .ok (.iload_n 0, 1) := by decide +kernel
theorem dX12_isOwn_13 : decode cX12_isOwn 13 = .ok (.ldc 62, 2) := by decide +kernel
theorem dX12_isOwn_15 : decode cX12_isOwn 15 = .ok (.if_icmp .eq 52, 3) := by decide +kernel
theorem dX12_isOwn_18 : decode cX12_isOwn 18 = .ok (.iload_n 0, 1) := by decide +kernel
theorem dX12_isOwn_19 : decode cX12_isOwn 19 = .ok (.ldc 63, 2) := by decide +kernel
theorem dX12_isOwn_21 : decode cX12_isOwn 21 = .ok (.if_icmp .eq 46, 3) := by decide +kernel
theorem dX12_isOwn_24 : decode cX12_isOwn 24 = .ok (.iload_n 0, 1) := by decide +kernel
theorem dX12_isOwn_25 : decode cX12_isOwn 25 = .ok (.ldc 64, 2) := by decide +kernel
theorem dX12_isOwn_27 : decode cX12_isOwn 27 = .ok (.if_icmp .eq 40, 3) := by decide +kernel
theorem dX12_isOwn_30 : decode cX12_isOwn 30 = .ok (.iload_n 0, 1) := by decide +kernel
theorem dX12_isOwn_31 : decode cX12_isOwn 31 = .ok (.ldc 65, 2) := by decide +kernel
theorem dX12_isOwn_33 : decode cX12_isOwn 33 = .ok (.if_icmp .eq 34, 3) := by decide +kernel
theorem dX12_isOwn_36 : decode cX12_isOwn 36 = .ok (.iload_n 0, 1) := by decide +kernel
theorem dX12_isOwn_37 : decode cX12_isOwn 37 = .ok (.ldc 66, 2) := by decide +kernel
theorem dX12_isOwn_39 : decode cX12_isOwn 39 = .ok (.if_icmp .eq 28, 3) := by decide +kernel
theorem dX12_isOwn_42 : decode cX12_isOwn 42 = .ok (.iload_n 0, 1) := by decide +kernel
theorem dX12_isOwn_43 : decode cX12_isOwn 43 = .ok (.ldc 67, 2) := by decide +kernel
theorem dX12_isOwn_45 : decode cX12_isOwn 45 = .ok (.if_icmp .eq 22, 3) := by decide +kernel
theorem dX12_isOwn_48 : decode cX12_isOwn 48 = .ok (.iload_n 0, 1) := by decide +kernel
theorem dX12_isOwn_49 : decode cX12_isOwn 49 = .ok (.sipush 486, 3) := by decide +kernel
theorem dX12_isOwn_52 : decode cX12_isOwn 52 = .ok (.if_icmp .eq 15, 3) := by decide +kernel
theorem dX12_isOwn_55 : decode cX12_isOwn 55 = .ok (.iload_n 0, 1) := by decide +kernel
theorem dX12_isOwn_56 : decode cX12_isOwn 56 = .ok (.ldc 68, 2) := by decide +kernel
theorem dX12_isOwn_58 : decode cX12_isOwn 58 = .ok (.if_icmp .eq 9, 3) := by decide +kernel
theorem dX12_isOwn_61 : decode cX12_isOwn 61 = .ok (.iload_n 0, 1) := by decide +kernel
theorem dX12_isOwn_62 : decode cX12_isOwn 62 = .ok (.ldc 69, 2) := by decide +kernel
theorem dX12_isOwn_64 : decode cX12_isOwn 64 = .ok (.if_icmp .ne 7, 3) := by decide +kernel
theorem dX12_isOwn_67 : decode cX12_isOwn 67 = .ok (.iconst 1, 1) := by decide +kernel
theorem dX12_isOwn_68 : decode cX12_isOwn 68 = .ok (.goto 4, 3) := by decide +kernel
theorem dX12_isOwn_71 : decode cX12_isOwn 71 = .ok (.iconst 0, 1) := by decide +kernel
theorem dX12_isOwn_72 : decode cX12_isOwn 72 = .ok (.istore_n 1, 1) := by decide +kernel
theorem dX12_isOwn_73 : decode cX12_isOwn 73 = .ok (.iload_n 1, 1) := by decide +kernel
theorem dX12_isOwn_74 : decode cX12_isOwn 74 = .ok (.ifCond .ne 65, 3) := by decide +kernel
theorem dX12_isOwn_77 : decode cX12_isOwn 77 = .ok (.iload_n 0, 1) := by decide +kernel
theorem dX12_isOwn_78 : decode cX12_isOwn 78 = .ok (.ldc 70, 2) := by decide +kernel
theorem dX12_isOwn_80 : decode cX12_isOwn 80 = .ok (.if_icmp .eq 59, 3) := by decide +kernel
theorem dX12_isOwn_83 : decode cX12_isOwn 83 = .ok (.iload_n 0, 1) := by decide +kernel
theorem dX12_isOwn_84 : decode cX12_isOwn 84 = .ok (.bipush 89, 2) := by decide +kernel
theorem dX12_isOwn_86 : decode cX12_isOwn 86 = .ok (.if_icmp .eq 53, 3) := by decide +kernel
theorem dX12_isOwn_89 : decode cX12_isOwn 89 = .ok (.iload_n 0, 1) := by decide +kernel
theorem dX12_isOwn_90 : decode cX12_isOwn 90 = .ok (.ldc 71, 2) := by decide +kernel
theorem dX12_isOwn_92 : decode cX12_isOwn 92 = .ok (.if_icmp .eq 47, 3) := by decide +kernel
theorem dX12_isOwn_95 : decode cX12_isOwn 95 = .ok (.iload_n 0, 1) := by decide +kernel
theorem dX12_isOwn_96 : decode cX12_isOwn 96 = .ok (.bipush 52, 2) := by decide +kernel
theorem dX12_isOwn_98 : decode cX12_isOwn 98 = .ok (.if_icmp .eq 41, 3) := by decide +kernel
theorem dX12_isOwn_101 : decode cX12_isOwn 101 = .ok (.iload_n 0, 1) := by decide +kernel
theorem dX12_isOwn_102 : decode cX12_isOwn 102 = .ok (.sipush 688, 3) := by decide +kernel
theorem dX12_isOwn_105 : decode cX12_isOwn 105 = .ok (.if_icmp .eq 34, 3) := by decide +kernel
theorem dX12_isOwn_108 : decode cX12_isOwn 108 = .ok (.iload_n 0, 1) := by decide +kernel
theorem dX12_isOwn_109 : decode cX12_isOwn 109 = .ok (.ldc 72, 2) := by decide +kernel
theorem dX12_isOwn_111 : decode cX12_isOwn 111 = .ok (.if_icmp .eq 28, 3) := by decide +kernel
theorem dX12_isOwn_114 : decode cX12_isOwn 114 = .ok (.iload_n 0, 1) := by decide +kernel
theorem dX12_isOwn_115 : decode cX12_isOwn 115 = .ok (.sipush 3764, 3) := by decide +kernel
theorem dX12_isOwn_118 : decode cX12_isOwn 118 = .ok (.if_icmp .eq 21, 3) := by decide +kernel
theorem dX12_isOwn_121 : decode cX12_isOwn 121 = .ok (.iload_n 0, 1) := by decide +kernel
theorem dX12_isOwn_122 : decode cX12_isOwn 122 = .ok (.ldc 73, 2) := by decide +kernel
theorem dX12_isOwn_124 : decode cX12_isOwn 124 = .ok (.if_icmp .eq 15, 3) := by decide +kernel
theorem dX12_isOwn_127 : decode cX12_isOwn 127 = .ok (.iload_n 0, 1) := by decide +kernel
theorem dX12_isOwn_128 : decode cX12_isOwn 128 = .ok (.ldc 74, 2) := by decide +kernel
theorem dX12_isOwn_130 : decode cX12_isOwn 130 = .ok (.if_icmp .eq 9, 3) := by decide +kernel
theorem dX12_isOwn_133 : decode cX12_isOwn 133 = .ok (.iload_n 0, 1) := by decide +kernel
theorem dX12_isOwn_134 : decode cX12_isOwn 134 = .ok (.ldc 75, 2) := by decide +kernel
theorem dX12_isOwn_136 : decode cX12_isOwn 136 = .ok (.if_icmp .ne 7, 3) := by decide +kernel
theorem dX12_isOwn_139 : decode cX12_isOwn 139 = .ok (.iconst 1, 1) := by decide +kernel
theorem dX12_isOwn_140 : decode cX12_isOwn 140 = .ok (.goto 4, 3) := by decide +kernel
theorem dX12_isOwn_143 : decode cX12_isOwn 143 = .ok (.iconst 0, 1) := by decide +kernel
theorem dX12_isOwn_144 : decode cX12_isOwn 144 = .ok (.ireturn, 1) := by decide +kernel
theorem dX12_begins_0 : decode cX12_begins 0 = .ok (.aload_n 0, 1) := by decide +kernel
theorem dX12_begins_1 : decode cX12_begins 1 = .ok (.aload_n 0, 1) := by decide +kernel
theorem dX12_begins_2 : decode cX12_begins 2 = .ok (.getfield 49, 3) := by decide +kernel
theorem dX12_begins_5 : decode cX12_begins 5 = .ok (.putfield 76, 3) := by decide +kernel
theorem dX12_begins_8 : decode cX12_begins 8 = .ok (.aload_n 0, 1) := by decide +kernel
theorem dX12_begins_9 : decode cX12_begins 9 = .ok (.iconst 0, 1) := by decide +kernel
theorem dX12_begins_10 : decode cX12_begins 10 = .ok (.putfield 49, 3) := by decide +kernel
theorem dX12_begins_13 : decode cX12_begins 13 = .ok (.aload_n 0, 1) := by decide +kernel
theorem dX12_begins_14 : decode cX12_begins 14 = .ok (.iconst 0, 1) := by decide +kernel
theorem dX12_begins_15 : decode cX12_begins 15 = .ok (.putfield 79, 3) := by decide +kernel
theorem dX12_begins_18 : decode cX12_begins 18 = .ok (.aload_n 0, 1) := by decide +kernel
theorem dX12_begins_19 : decode cX12_begins 19 = .ok (.iconst (-1), 1) := by decide +kernel
theorem dX12_begins_20 : decode cX12_begins 20 = .ok (.putfield 82, 3) := by decide +kernel
theorem dX12_begins_23 : decode cX12_begins 23 = .ok (.aload_n 0, 1) := by decide +kernel
theorem dX12_begins_24 : decode cX12_begins 24 = .ok (.iconst 0, 1) := by decide +kernel
theorem dX12_begins_25 : decode cX12_begins 25 = .ok (.putfield 85, 3) := by decide +kernel
theorem dX12_begins_28 : decode cX12_begins 28 = .ok (.aload_n 0, 1) := by decide +kernel
theorem dX12_begins_29 : decode cX12_begins 29 = .ok (.iconst (-1), 1) := by decide +kernel
theorem dX12_begins_30 : decode cX12_begins 30 = .ok (.putfield 88, 3) := by decide +kernel
theorem dX12_begins_33 : decode cX12_begins 33 = .ok (.return_, 1) := by decide +kernel
theorem dX12_isFine_0 : decode cX12_isFine 0 = .ok (.aload_n 0, 1) := by decide +kernel
theorem dX12_isFine_1 : decode cX12_isFine 1 = .ok (.getfield 85, 3) := by decide +kernel
theorem dX12_isFine_4 : decode cX12_isFine 4 = .ok (.ifCond .ne 7, 3) := by decide +kernel
theorem dX12_isFine_7 : decode cX12_isFine 7 = .ok (.iconst 1, 1) := by decide +kernel
theorem dX12_isFine_8 : decode cX12_isFine 8 = .ok (.goto 4, 3) := by decide +kernel
theorem dX12_isFine_11 : decode cX12_isFine 11 = .ok (.iconst 0, 1) := by decide +kernel
theorem dX12_isFine_12 : decode cX12_isFine 12 = .ok (.ireturn, 1) := by decide +kernel
theorem dX12_fail_0 : decode cX12_fail 0 = .ok (.aload_n 0, 1) := by decide +kernel
theorem dX12_fail_1 : decode cX12_fail 1 = .ok (.getfield 85, 3) := by decide +kernel
theorem dX12_fail_4 : decode cX12_fail 4 = .ok (.ifCond .eq 4, 3) := by decide +kernel
theorem dX12_fail_7 : decode cX12_fail 7 = .ok (.return_, 1) := by decide +kernel
theorem dX12_fail_8 : decode cX12_fail 8 = .ok (.aload_n 0, 1) := by decide +kernel
theorem dX12_fail_9 : decode cX12_fail 9 = .ok (.iload_n 1, 1) := by decide +kernel
theorem dX12_fail_10 : decode cX12_fail 10 = .ok (.putfield 85, 3) := by decide +kernel
theorem dX12_fail_13 : decode cX12_fail 13 = .ok (.aload_n 0, 1) := by decide +kernel
theorem dX12_fail_14 : decode cX12_fail 14 = .ok (.iload_n 2, 1) := by decide +kernel
theorem dX12_fail_15 : decode cX12_fail 15 = .ok (.putfield 88, 3) := by decide +kernel
theorem dX12_fail_18 : decode cX12_fail 18 = .ok (.return_, 1) := by decide +kernel
theorem dX12_isRead_0 : decode cX12_isRead 0 = .ok (.aload_n 0, 1) := by decide +kernel
theorem dX12_isRead_1 : decode cX12_isRead 1 = .ok (.aload_n 0, 1) := by decide +kernel
theorem dX12_isRead_2 : decode cX12_isRead 2 = .ok (.getfield 85, 3) := by decide +kernel
theorem dX12_isRead_5 : decode cX12_isRead 5 = .ok (.putfield 91, 3) := by decide +kernel
theorem dX12_isRead_8 : decode cX12_isRead 8 = .ok (.aload_n 0, 1) := by decide +kernel
theorem dX12_isRead_9 : decode cX12_isRead 9 = .ok (.aload_n 0, 1) := by decide +kernel
theorem dX12_isRead_10 : decode cX12_isRead 10 = .ok (.getfield 85, 3) := by decide +kernel
theorem dX12_isRead_13 : decode cX12_isRead 13 = .ok (.ifCond .ne 7, 3) := by decide +kernel
theorem dX12_isRead_16 : decode cX12_isRead 16 = .ok (.iconst (-1), 1) := by decide +kernel
theorem dX12_isRead_17 : decode cX12_isRead 17 = .ok (.goto 7, 3) := by decide +kernel
theorem dX12_isRead_20 : decode cX12_isRead 20 = .ok (.aload_n 0, 1) := by decide +kernel
theorem dX12_isRead_21 : decode cX12_isRead 21 = .ok (.getfield 88, 3) := by decide +kernel
theorem dX12_isRead_24 : decode cX12_isRead 24 = .ok (.putfield 13, 3) := by decide +kernel
theorem dX12_isRead_27 : decode cX12_isRead 27 = .ok (.aload_n 0, 1) := by decide +kernel
theorem dX12_isRead_28 : decode cX12_isRead 28 = .ok (.getfield 85, 3) := by decide +kernel
theorem dX12_isRead_31 : decode cX12_isRead 31 = .ok (.ifCond .ne 7, 3) := by decide +kernel
theorem dX12_isRead_34 : decode cX12_isRead 34 = .ok (.iconst 1, 1) := by decide +kernel
theorem dX12_isRead_35 : decode cX12_isRead 35 = .ok (.goto 4, 3) := by decide +kernel
theorem dX12_isRead_38 : decode cX12_isRead 38 = .ok (.iconst 0, 1) := by decide +kernel
theorem dX12_isRead_39 : decode cX12_isRead 39 = .ok (.ireturn, 1) := by decide +kernel
theorem dX12_isLetter_0 : decode cX12_isLetter 0 = .ok (.iload_n 1, 1) := by decide +kernel
theorem dX12_isLetter_1 : decode cX12_isLetter 1 = .ok (.aload_n 0, 1) := by decide +kernel
theorem dX12_isLetter_2 : decode cX12_isLetter 2 = .ok (.getfield 76, 3) := by decide +kernel
theorem dX12_isLetter_5 : decode cX12_isLetter 5 = .ok (.if_icmp .ge 26, 3) := by decide +kernel
theorem dX12_isLetter_8 : decode cX12_isLetter 8 = .ok (.aload_n 0, 1) := by decide +kernel
theorem dX12_isLetter_9 : decode cX12_isLetter 9 = .ok (.getfield 7, 3) := by decide +kernel
theorem dX12_isLetter_12 : decode cX12_isLetter 12 = .ok (.iload_n 1, 1) := by decide +kernel
theorem dX12_isLetter_13 : decode cX12_isLetter 13 = .ok (.baload, 1) := by decide +kernel
theorem dX12_isLetter_14 : decode cX12_isLetter 14 = .ok (.i2l, 1) := by decide +kernel
theorem dX12_isLetter_15 : decode cX12_isLetter 15 = .ok (.ldc2_w 94, 3) := by decide +kernel
theorem dX12_isLetter_18 : decode cX12_isLetter 18 = .ok (.ldc2_w 96, 3) := by decide +kernel
theorem dX12_isLetter_21 : decode cX12_isLetter 21 = .ok (.invokestatic 56, 3) := by decide +kernel
theorem dX12_isLetter_24 : decode cX12_isLetter 24 = .ok (.ifCond .eq 7, 3) := by decide +kernel
theorem dX12_isLetter_27 : decode cX12_isLetter 27 = .ok (.iconst 1, 1) := by decide +kernel
theorem dX12_isLetter_28 : decode cX12_isLetter 28 = .ok (.goto 4, 3) := by decide +kernel
theorem dX12_isLetter_31 : decode cX12_isLetter 31 = .ok (.iconst 0, 1) := by decide +kernel
theorem dX12_isLetter_32 : decode cX12_isLetter 32 = .ok (.ireturn, 1) := by decide +kernel
theorem dX12_isDigit_0 : decode cX12_isDigit 0 = .ok (.iload_n 1, 1) := by decide +kernel
theorem dX12_isDigit_1 : decode cX12_isDigit 1 = .ok (.aload_n 0, 1) := by decide +kernel
theorem dX12_isDigit_2 : decode cX12_isDigit 2 = .ok (.getfield 76, 3) := by decide +kernel
theorem dX12_isDigit_5 : decode cX12_isDigit 5 = .ok (.if_icmp .ge 26, 3) := by decide +kernel
theorem dX12_isDigit_8 : decode cX12_isDigit 8 = .ok (.aload_n 0, 1) := by decide +kernel
theorem dX12_isDigit_9 : decode cX12_isDigit 9 = .ok (.getfield 7, 3) := by decide +kernel
theorem dX12_isDigit_12 : decode cX12_isDigit 12 = .ok (.iload_n 1, 1) := by decide +kernel
theorem dX12_isDigit_13 : decode cX12_isDigit 13 = .ok (.baload, 1) := by decide +kernel
theorem dX12_isDigit_14 : decode cX12_isDigit 14 = .ok (.i2l, 1) := by decide +kernel
theorem dX12_isDigit_15 : decode cX12_isDigit 15 = .ok (.ldc2_w 98, 3) := by decide +kernel
theorem dX12_isDigit_18 : decode cX12_isDigit 18 = .ok (.ldc2_w 100, 3) := by decide +kernel
theorem dX12_isDigit_21 : decode cX12_isDigit 21 = .ok (.invokestatic 56, 3) := by decide +kernel
theorem dX12_isDigit_24 : decode cX12_isDigit 24 = .ok (.ifCond .eq 7, 3) := by decide +kernel
theorem dX12_isDigit_27 : decode cX12_isDigit 27 = .ok (.iconst 1, 1) := by decide +kernel
theorem dX12_isDigit_28 : decode cX12_isDigit 28 = .ok (.goto 4, 3) := by decide +kernel
theorem dX12_isDigit_31 : decode cX12_isDigit 31 = .ok (.iconst 0, 1) := by decide +kernel
theorem dX12_isDigit_32 : decode cX12_isDigit 32 = .ok (.ireturn, 1) := by decide +kernel
theorem dX12_next_0 : decode cX12_next 0 = .ok (.aload_n 0, 1) := by decide +kernel
theorem dX12_next_1 : decode cX12_next 1 = .ok (.getfield 79, 3) := by decide +kernel
theorem dX12_next_4 : decode cX12_next 4 = .ok (.aload_n 0, 1) := by decide +kernel
theorem dX12_next_5 : decode cX12_next 5 = .ok (.getfield 76, 3) := by decide +kernel
theorem dX12_next_8 : decode cX12_next 8 = .ok (.if_icmp .ge 44, 3) := by decide +kernel
theorem dX12_next_11 : decode cX12_next 11 = .ok (.aload_n 0, 1) := by decide +kernel
theorem dX12_next_12 : decode cX12_next 12 = .ok (.getfield 7, 3) := by decide +kernel
theorem dX12_next_15 : decode cX12_next 15 = .ok (.aload_n 0, 1) := by decide +kernel
theorem dX12_next_16 : decode cX12_next 16 = .ok (.getfield 79, 3) := by decide +kernel
theorem dX12_next_19 : decode cX12_next 19 = .ok (.baload, 1) := by decide +kernel
theorem dX12_next_20 : decode cX12_next 20 = .ok (.bipush 32, 2) := by decide +kernel
theorem dX12_next_22 : decode cX12_next 22 = .ok (.if_icmp .eq 17, 3) := by decide +kernel
theorem dX12_next_25 : decode cX12_next 25 = .ok (.aload_n 0, 1) := by decide +kernel
theorem dX12_next_26 : decode cX12_next 26 = .ok (.getfield 7, 3) := by decide +kernel
theorem dX12_next_29 : decode cX12_next 29 = .ok (.aload_n 0, 1) := by decide +kernel
theorem dX12_next_30 : decode cX12_next 30 = .ok (.getfield 79, 3) := by decide +kernel
theorem dX12_next_33 : decode cX12_next 33 = .ok (.baload, 1) := by decide +kernel
theorem dX12_next_34 : decode cX12_next 34 = .ok (.bipush 10, 2) := by decide +kernel
theorem dX12_next_36 : decode cX12_next 36 = .ok (.if_icmp .ne 16, 3) := by decide +kernel
theorem dX12_next_39 : decode cX12_next 39 = .ok (.aload_n 0, 1) := by decide +kernel
theorem dX12_next_40 : decode cX12_next 40 = .ok (.dup, 1) := by decide +kernel
theorem dX12_next_41 : decode cX12_next 41 = .ok (.getfield 79, 3) := by decide +kernel
theorem dX12_next_44 : decode cX12_next 44 = .ok (.iconst 1, 1) := by decide +kernel
theorem dX12_next_45 : decode cX12_next 45 = .ok (.iadd, 1) := by decide +kernel
theorem dX12_next_46 : decode cX12_next 46 = .ok (.putfield 79, 3) := by decide +kernel
theorem dX12_next_49 : decode cX12_next 49 = .ok (.goto (-49), 3) := by decide +kernel
theorem dX12_next_52 : decode cX12_next 52 = .ok (.aload_n 0, 1) := by decide +kernel
theorem dX12_next_53 : decode cX12_next 53 = .ok (.getfield 79, 3) := by decide +kernel
theorem dX12_next_56 : decode cX12_next 56 = .ok (.ireturn, 1) := by decide +kernel
theorem dX12_isOver_0 : decode cX12_isOver 0 = .ok (.aload_n 0, 1) := by decide +kernel
theorem dX12_isOver_1 : decode cX12_isOver 1 = .ok (.invokevirtual 102, 3) := by decide +kernel
theorem dX12_isOver_4 : decode cX12_isOver 4 = .ok (.aload_n 0, 1) := by decide +kernel
theorem dX12_isOver_5 : decode cX12_isOver 5 = .ok (.getfield 76, 3) := by decide +kernel
theorem dX12_isOver_8 : decode cX12_isOver 8 = .ok (.if_icmp .lt 7, 3) := by decide +kernel
theorem dX12_isOver_11 : decode cX12_isOver 11 = .ok (.iconst 1, 1) := by decide +kernel
theorem dX12_isOver_12 : decode cX12_isOver 12 = .ok (.goto 4, 3) := by decide +kernel
theorem dX12_isOver_15 : decode cX12_isOver 15 = .ok (.iconst 0, 1) := by decide +kernel
theorem dX12_isOver_16 : decode cX12_isOver 16 = .ok (.ireturn, 1) := by decide +kernel
theorem dX12_unlike_0 : decode cX12_unlike 0 = .ok (.aload_n 0, 1) := by decide +kernel
theorem dX12_unlike_1 : decode cX12_unlike 1 = .ok (.iconst 1, 1) := by decide +kernel
theorem dX12_unlike_2 : decode cX12_unlike 2 = .ok (.aload_n 0, 1) := by decide +kernel
theorem dX12_unlike_3 : decode cX12_unlike 3 = .ok (.invokevirtual 102, 3) := by decide +kernel
theorem dX12_unlike_6 : decode cX12_unlike 6 = .ok (.invokevirtual 106, 3) := by decide +kernel
theorem dX12_unlike_9 : decode cX12_unlike 9 = .ok (.return_, 1) := by decide +kernel
theorem dX12_takesSign_0 : decode cX12_takesSign 0 = .ok (.aload_n 0, 1) := by decide +kernel
theorem dX12_takesSign_1 : decode cX12_takesSign 1 = .ok (.invokevirtual 110, 3) := by decide +kernel
theorem dX12_takesSign_4 : decode cX12_takesSign 4 = .ok (.ifCond .eq 23, 3) := by decide +kernel
theorem dX12_takesSign_7 : decode cX12_takesSign 7 = .ok (.aload_n 0, 1) := by decide +kernel
theorem dX12_takesSign_8 : decode cX12_takesSign 8 = .ok (.invokevirtual 114, 3) := by decide +kernel
theorem dX12_takesSign_11 : decode cX12_takesSign 11 = .ok (.ifCond .ne 16, 3) := by decide +kernel
theorem dX12_takesSign_14 : decode cX12_takesSign 14 = .ok (.aload_n 0, 1) := by decide +kernel
theorem dX12_takesSign_15 : decode cX12_takesSign 15 = .ok (.getfield 7, 3) := by decide +kernel
theorem dX12_takesSign_18 : decode cX12_takesSign 18 = .ok (.aload_n 0, 1) := by decide +kernel
theorem dX12_takesSign_19 : decode cX12_takesSign 19 = .ok (.getfield 79, 3) := by decide +kernel
theorem dX12_takesSign_22 : decode cX12_takesSign 22 = .ok (.baload, 1) := by decide +kernel
theorem dX12_takesSign_23 : decode cX12_takesSign 23 = .ok (.iload_n 1, 1) := by decide +kernel
theorem dX12_takesSign_24 : decode cX12_takesSign 24 = .ok (.if_icmp .eq 5, 3) := by decide +kernel
theorem dX12_takesSign_27 : decode cX12_takesSign 27 = .ok (.iconst 0, 1) := by decide +kernel
theorem dX12_takesSign_28 : decode cX12_takesSign 28 = .ok (.ireturn, 1) := by decide +kernel
theorem dX12_takesSign_29 : decode cX12_takesSign 29 = .ok (.aload_n 0, 1) := by decide +kernel
theorem dX12_takesSign_30 : decode cX12_takesSign 30 = .ok (.dup, 1) := by decide +kernel
theorem dX12_takesSign_31 : decode cX12_takesSign 31 = .ok (.getfield 79, 3) := by decide +kernel
theorem dX12_takesSign_34 : decode cX12_takesSign 34 = .ok (.iconst 1, 1) := by decide +kernel
theorem dX12_takesSign_35 : decode cX12_takesSign 35 = .ok (.iadd, 1) := by decide +kernel
theorem dX12_takesSign_36 : decode cX12_takesSign 36 = .ok (.putfield 79, 3) := by decide +kernel
theorem dX12_takesSign_39 : decode cX12_takesSign 39 = .ok (.iconst 1, 1) := by decide +kernel
theorem dX12_takesSign_40 : decode cX12_takesSign 40 = .ok (.ireturn, 1) := by decide +kernel
theorem dX12_needsSign_0 : decode cX12_needsSign 0 = .ok (.aload_n 0, 1) := by decide +kernel
theorem dX12_needsSign_1 : decode cX12_needsSign 1 = .ok (.invokevirtual 110, 3) := by decide +kernel
theorem dX12_needsSign_4 : decode cX12_needsSign 4 = .ok (.ifCond .eq 15, 3) := by decide +kernel
theorem dX12_needsSign_7 : decode cX12_needsSign 7 = .ok (.aload_n 0, 1) := by decide +kernel
theorem dX12_needsSign_8 : decode cX12_needsSign 8 = .ok (.iload_n 1, 1) := by decide +kernel
theorem dX12_needsSign_9 : decode cX12_needsSign 9 = .ok (.invokevirtual 117, 3) := by decide +kernel
theorem dX12_needsSign_12 : decode cX12_needsSign 12 = .ok (.ifCond .ne 7, 3) := by decide +kernel
theorem dX12_needsSign_15 : decode cX12_needsSign 15 = .ok (.aload_n 0, 1) := by decide +kernel
theorem dX12_needsSign_16 : decode cX12_needsSign 16 = .ok (.invokevirtual 121, 3) := by decide +kernel
theorem dX12_needsSign_19 : decode cX12_needsSign 19 = .ok (.return_, 1) := by decide +kernel
theorem dX12_seesWord_0 : decode cX12_seesWord 0 = .ok (.aload_n 0, 1) := by decide +kernel
theorem dX12_seesWord_1 : decode cX12_seesWord 1 = .ok (.invokevirtual 102, 3) := by decide +kernel
theorem dX12_seesWord_4 : decode cX12_seesWord 4 = .ok (.istore_n 1, 1) := by decide +kernel
theorem dX12_seesWord_5 : decode cX12_seesWord 5 = .ok (.aload_n 0, 1) := by decide +kernel
theorem dX12_seesWord_6 : decode cX12_seesWord 6 = .ok (.iconst 0, 1) := by decide +kernel
theorem dX12_seesWord_7 : decode cX12_seesWord 7 = .ok (.putfield 124, 3) := by decide +kernel
theorem dX12_seesWord_10 : decode cX12_seesWord 10 = .ok (.aload_n 0, 1) := by decide +kernel
theorem dX12_seesWord_11 : decode cX12_seesWord 11 = .ok (.iconst 0, 1) := by decide +kernel
theorem dX12_seesWord_12 : decode cX12_seesWord 12 = .ok (.putfield 127, 3) := by decide +kernel
theorem dX12_seesWord_15 : decode cX12_seesWord 15 = .ok (.aload_n 0, 1) := by decide +kernel
theorem dX12_seesWord_16 : decode cX12_seesWord 16 = .ok (.iload_n 1, 1) := by decide +kernel
theorem dX12_seesWord_17 : decode cX12_seesWord 17 = .ok (.invokevirtual 130, 3) := by decide +kernel
theorem dX12_seesWord_20 : decode cX12_seesWord 20 = .ok (.ifCond .eq 11, 3) := by decide +kernel
theorem dX12_seesWord_23 : decode cX12_seesWord 23 = .ok (.iload_n 1, 1) := by decide +kernel
theorem dX12_seesWord_24 : decode cX12_seesWord 24 = .ok (.aload_n 0, 1) := by decide +kernel
theorem dX12_seesWord_25 : decode cX12_seesWord 25 = .ok (.getfield 82, 3) := by decide +kernel
theorem dX12_seesWord_28 : decode cX12_seesWord 28 = .ok (.if_icmp .ne 5, 3) := by decide +kernel
theorem dX12_seesWord_31 : decode cX12_seesWord 31 = .ok (.iconst 0, 1) := by decide +kernel
theorem dX12_seesWord_32 : decode cX12_seesWord 32 = .ok (.ireturn, 1) := by decide +kernel
theorem dX12_seesWord_33 : decode cX12_seesWord 33 = .ok (.aload_n 0, 1) := by decide +kernel
theorem dX12_seesWord_34 : decode cX12_seesWord 34 = .ok (.iload_n 1, 1) := by decide +kernel
theorem dX12_seesWord_35 : decode cX12_seesWord 35 = .ok (.aload_n 0, 1) := by decide +kernel
theorem dX12_seesWord_36 : decode cX12_seesWord 36 = .ok (.getfield 124, 3) := by decide +kernel
theorem dX12_seesWord_39 : decode cX12_seesWord 39 = .ok (.iadd, 1) := by decide +kernel
theorem dX12_seesWord_40 : decode cX12_seesWord 40 = .ok (.invokevirtual 130, 3) := by decide +kernel
theorem dX12_seesWord_43 : decode cX12_seesWord 43 = .ok (.ifCond .eq 55, 3) := by decide +kernel
theorem dX12_seesWord_46 : decode cX12_seesWord 46 = .ok (.aload_n 0, 1) := by decide +kernel
theorem dX12_seesWord_47 : decode cX12_seesWord 47 = .ok (.aload_n 0, 1) := by decide +kernel
theorem dX12_seesWord_48 : decode cX12_seesWord 48 = .ok (.getfield 124, 3) := by decide +kernel
theorem dX12_seesWord_51 : decode cX12_seesWord 51 = .ok (.bipush 6, 2) := by decide +kernel
theorem dX12_seesWord_53 : decode cX12_seesWord 53 = .ok (.if_icmp .ge 28, 3) := by decide +kernel
theorem dX12_seesWord_56 : decode cX12_seesWord 56 = .ok (.bipush 32, 2) := by decide +kernel
theorem dX12_seesWord_58 : decode cX12_seesWord 58 = .ok (.aload_n 0, 1) := by decide +kernel
theorem dX12_seesWord_59 : decode cX12_seesWord 59 = .ok (.getfield 127, 3) := by decide +kernel
theorem dX12_seesWord_62 : decode cX12_seesWord 62 = .ok (.imul, 1) := by decide +kernel
theorem dX12_seesWord_63 : decode cX12_seesWord 63 = .ok (.aload_n 0, 1) := by decide +kernel
theorem dX12_seesWord_64 : decode cX12_seesWord 64 = .ok (.getfield 7, 3) := by decide +kernel
theorem dX12_seesWord_67 : decode cX12_seesWord 67 = .ok (.iload_n 1, 1) := by decide +kernel
theorem dX12_seesWord_68 : decode cX12_seesWord 68 = .ok (.aload_n 0, 1) := by decide +kernel
theorem dX12_seesWord_69 : decode cX12_seesWord 69 = .ok (.getfield 124, 3) := by decide +kernel
theorem dX12_seesWord_72 : decode cX12_seesWord 72 = .ok (.iadd, 1) := by decide +kernel
theorem dX12_seesWord_73 : decode cX12_seesWord 73 = .ok (.baload, 1) := by decide +kernel
theorem dX12_seesWord_74 : decode cX12_seesWord 74 = .ok (.iadd, 1) := by decide +kernel
theorem dX12_seesWord_75 : decode cX12_seesWord 75 = .ok (.bipush 96, 2) := by decide +kernel
theorem dX12_seesWord_77 : decode cX12_seesWord 77 = .ok (.isub, 1) := by decide +kernel
theorem dX12_seesWord_78 : decode cX12_seesWord 78 = .ok (.goto 4, 3) := by decide +kernel
theorem dX12_seesWord_81 : decode cX12_seesWord 81 = .ok (.iconst (-1), 1) := by decide +kernel
theorem dX12_seesWord_82 : decode cX12_seesWord 82 = .ok (.putfield 127, 3) := by decide +kernel
theorem dX12_seesWord_85 : decode cX12_seesWord 85 = .ok (.aload_n 0, 1) := by decide +kernel
theorem dX12_seesWord_86 : decode cX12_seesWord 86 = .ok (.dup, 1) := by decide +kernel
theorem dX12_seesWord_87 : decode cX12_seesWord 87 = .ok (.getfield 124, 3) := by decide +kernel
theorem dX12_seesWord_90 : decode cX12_seesWord 90 = .ok (.iconst 1, 1) := by decide +kernel
theorem dX12_seesWord_91 : decode cX12_seesWord 91 = .ok (.iadd, 1) := by decide +kernel
theorem dX12_seesWord_92 : decode cX12_seesWord 92 = .ok (.putfield 124, 3) := by decide +kernel
theorem dX12_seesWord_95 : decode cX12_seesWord 95 = .ok (.goto (-62), 3) := by decide +kernel
theorem dX12_seesWord_98 : decode cX12_seesWord 98 = .ok (.aload_n 0, 1) := by decide +kernel
theorem dX12_seesWord_99 : decode cX12_seesWord 99 = .ok (.getfield 124, 3) := by decide +kernel
theorem dX12_seesWord_102 : decode cX12_seesWord 102 = .ok (.bipush 7, 2) := by decide +kernel
theorem dX12_seesWord_104 : decode cX12_seesWord 104 = .ok (.if_icmp .ge 7, 3) := by decide +kernel
theorem dX12_seesWord_107 : decode cX12_seesWord 107 = .ok (.iconst 1, 1) := by decide +kernel
theorem dX12_seesWord_108 : decode cX12_seesWord 108 = .ok (.goto 4, 3) := by decide +kernel
theorem dX12_seesWord_111 : decode cX12_seesWord 111 = .ok (.iconst 0, 1) := by decide +kernel
theorem dX12_seesWord_112 : decode cX12_seesWord 112 = .ok (.ireturn, 1) := by decide +kernel
theorem dX12_isWord_0 : decode cX12_isWord 0 = .ok (.aload_n 0, 1) := by decide +kernel
theorem dX12_isWord_1 : decode cX12_isWord 1 = .ok (.invokevirtual 110, 3) := by decide +kernel
theorem dX12_isWord_4 : decode cX12_isWord 4 = .ok (.ifCond .eq 22, 3) := by decide +kernel
theorem dX12_isWord_7 : decode cX12_isWord 7 = .ok (.aload_n 0, 1) := by decide +kernel
theorem dX12_isWord_8 : decode cX12_isWord 8 = .ok (.invokevirtual 133, 3) := by decide +kernel
theorem dX12_isWord_11 : decode cX12_isWord 11 = .ok (.ifCond .eq 15, 3) := by decide +kernel
theorem dX12_isWord_14 : decode cX12_isWord 14 = .ok (.aload_n 0, 1) := by decide +kernel
theorem dX12_isWord_15 : decode cX12_isWord 15 = .ok (.getfield 127, 3) := by decide +kernel
theorem dX12_isWord_18 : decode cX12_isWord 18 = .ok (.iload_n 1, 1) := by decide +kernel
theorem dX12_isWord_19 : decode cX12_isWord 19 = .ok (.if_icmp .ne 7, 3) := by decide +kernel
theorem dX12_isWord_22 : decode cX12_isWord 22 = .ok (.iconst 1, 1) := by decide +kernel
theorem dX12_isWord_23 : decode cX12_isWord 23 = .ok (.goto 4, 3) := by decide +kernel
theorem dX12_isWord_26 : decode cX12_isWord 26 = .ok (.iconst 0, 1) := by decide +kernel
theorem dX12_isWord_27 : decode cX12_isWord 27 = .ok (.ireturn, 1) := by decide +kernel
theorem dX12_pass_0 : decode cX12_pass 0 = .ok (.aload_n 0, 1) := by decide +kernel
theorem dX12_pass_1 : decode cX12_pass 1 = .ok (.dup, 1) := by decide +kernel
theorem dX12_pass_2 : decode cX12_pass 2 = .ok (.getfield 79, 3) := by decide +kernel
theorem dX12_pass_5 : decode cX12_pass 5 = .ok (.aload_n 0, 1) := by decide +kernel
theorem dX12_pass_6 : decode cX12_pass 6 = .ok (.getfield 124, 3) := by decide +kernel
theorem dX12_pass_9 : decode cX12_pass 9 = .ok (.iadd, 1) := by decide +kernel
theorem dX12_pass_10 : decode cX12_pass 10 = .ok (.putfield 79, 3) := by decide +kernel
theorem dX12_pass_13 : decode cX12_pass 13 = .ok (.aload_n 0, 1) := by decide +kernel
theorem dX12_pass_14 : decode cX12_pass 14 = .ok (.aload_n 0, 1) := by decide +kernel
theorem dX12_pass_15 : decode cX12_pass 15 = .ok (.getfield 79, 3) := by decide +kernel
theorem dX12_pass_18 : decode cX12_pass 18 = .ok (.putfield 82, 3) := by decide +kernel
theorem dX12_pass_21 : decode cX12_pass 21 = .ok (.return_, 1) := by decide +kernel
theorem dX12_takes_0 : decode cX12_takes 0 = .ok (.aload_n 0, 1) := by decide +kernel
theorem dX12_takes_1 : decode cX12_takes 1 = .ok (.iload_n 1, 1) := by decide +kernel
theorem dX12_takes_2 : decode cX12_takes 2 = .ok (.invokevirtual 136, 3) := by decide +kernel
theorem dX12_takes_5 : decode cX12_takes 5 = .ok (.ifCond .ne 5, 3) := by decide +kernel
theorem dX12_takes_8 : decode cX12_takes 8 = .ok (.iconst 0, 1) := by decide +kernel
theorem dX12_takes_9 : decode cX12_takes 9 = .ok (.ireturn, 1) := by decide +kernel
theorem dX12_takes_10 : decode cX12_takes 10 = .ok (.aload_n 0, 1) := by decide +kernel
theorem dX12_takes_11 : decode cX12_takes 11 = .ok (.invokevirtual 139, 3) := by decide +kernel
theorem dX12_takes_14 : decode cX12_takes 14 = .ok (.iconst 1, 1) := by decide +kernel
theorem dX12_takes_15 : decode cX12_takes 15 = .ok (.ireturn, 1) := by decide +kernel
theorem dX12_asks_0 : decode cX12_asks 0 = .ok (.aload_n 0, 1) := by decide +kernel
theorem dX12_asks_1 : decode cX12_asks 1 = .ok (.invokevirtual 110, 3) := by decide +kernel
theorem dX12_asks_4 : decode cX12_asks 4 = .ok (.ifCond .eq 15, 3) := by decide +kernel
theorem dX12_asks_7 : decode cX12_asks 7 = .ok (.aload_n 0, 1) := by decide +kernel
theorem dX12_asks_8 : decode cX12_asks 8 = .ok (.iload_n 1, 1) := by decide +kernel
theorem dX12_asks_9 : decode cX12_asks 9 = .ok (.invokevirtual 142, 3) := by decide +kernel
theorem dX12_asks_12 : decode cX12_asks 12 = .ok (.ifCond .ne 7, 3) := by decide +kernel
theorem dX12_asks_15 : decode cX12_asks 15 = .ok (.aload_n 0, 1) := by decide +kernel
theorem dX12_asks_16 : decode cX12_asks 16 = .ok (.invokevirtual 121, 3) := by decide +kernel
theorem dX12_asks_19 : decode cX12_asks 19 = .ok (.return_, 1) := by decide +kernel
theorem dX12_isName_0 : decode cX12_isName 0 = .ok (.aload_n 0, 1) := by decide +kernel
theorem dX12_isName_1 : decode cX12_isName 1 = .ok (.invokevirtual 110, 3) := by decide +kernel
theorem dX12_isName_4 : decode cX12_isName 4 = .ok (.ifCond .eq 24, 3) := by decide +kernel
theorem dX12_isName_7 : decode cX12_isName 7 = .ok (.aload_n 0, 1) := by decide +kernel
theorem dX12_isName_8 : decode cX12_isName 8 = .ok (.invokevirtual 133, 3) := by decide +kernel
theorem dX12_isName_11 : decode cX12_isName 11 = .ok (.ifCond .eq 17, 3) := by decide +kernel
theorem dX12_isName_14 : decode cX12_isName 14 = .ok (.aload_n 0, 1) := by decide +kernel
theorem dX12_isName_15 : decode cX12_isName 15 = .ok (.getfield 127, 3) := by decide +kernel
theorem dX12_isName_18 : decode cX12_isName 18 = .ok (.invokestatic 145, 3) := by decide +kernel
theorem dX12_isName_21 : decode cX12_isName 21 = .ok (.ifCond .ne 7, 3) := by decide +kernel
theorem dX12_isName_24 : decode cX12_isName 24 = .ok (.iconst 1, 1) := by decide +kernel
theorem dX12_isName_25 : decode cX12_isName 25 = .ok (.goto 4, 3) := by decide +kernel
theorem dX12_isName_28 : decode cX12_isName 28 = .ok (.iconst 0, 1) := by decide +kernel
theorem dX12_isName_29 : decode cX12_isName 29 = .ok (.ireturn, 1) := by decide +kernel
theorem dX12_number_0 : decode cX12_number 0 = .ok (.aload_n 0, 1) := by decide +kernel
theorem dX12_number_1 : decode cX12_number 1 = .ok (.invokevirtual 102, 3) := by decide +kernel
theorem dX12_number_4 : decode cX12_number 4 = .ok (.istore_n 3, 1) := by decide +kernel
theorem dX12_number_5 : decode cX12_number 5 = .ok (.aload_n 0, 1) := by decide +kernel
theorem dX12_number_6 : decode cX12_number 6 = .ok (.iload_n 3, 1) := by decide +kernel
theorem dX12_number_7 : decode cX12_number 7 = .ok (.putfield 148, 3) := by decide +kernel
theorem dX12_number_10 : decode cX12_number 10 = .ok (.iconst 0, 1) := by decide +kernel
theorem dX12_number_11 : decode cX12_number 11 = .ok (.istore 4, 2) := by decide +kernel
theorem dX12_number_13 : decode cX12_number 13 = .ok (.aload_n 0, 1) := by decide +kernel
theorem dX12_number_14 : decode cX12_number 14 = .ok (.iload_n 3, 1) := by decide +kernel
theorem dX12_number_15 : decode cX12_number 15 = .ok (.iload 4, 2) := by decide +kernel
theorem dX12_number_17 : decode cX12_number 17 = .ok (.iadd, 1) := by decide +kernel
theorem dX12_number_18 : decode cX12_number 18 = .ok (.invokevirtual 151, 3) := by decide +kernel
theorem dX12_number_21 : decode cX12_number 21 = .ok (.ifCond .eq 9, 3) := by decide +kernel
theorem dX12_number_24 : decode cX12_number 24 = .ok (.iinc 4 1, 3) := by decide +kernel
theorem dX12_number_27 : decode cX12_number 27 = .ok (.goto (-14), 3) := by decide +kernel
theorem dX12_number_30 : decode cX12_number 30 = .ok (.aload_n 0, 1) := by decide +kernel
theorem dX12_number_31 : decode cX12_number 31 = .ok (.invokevirtual 110, 3) := by decide +kernel
theorem dX12_number_34 : decode cX12_number 34 = .ok (.ifCond .eq 26, 3) := by decide +kernel
theorem dX12_number_37 : decode cX12_number 37 = .ok (.iload 4, 2) := by decide +kernel
theorem dX12_number_39 : decode cX12_number 39 = .ok (.ifCond .eq 17, 3) := by decide +kernel
theorem dX12_number_42 : decode cX12_number 42 = .ok (.iload 4, 2) := by decide +kernel
theorem dX12_number_44 : decode cX12_number 44 = .ok (.iconst 4, 1) := by decide +kernel
theorem dX12_number_45 : decode cX12_number 45 = .ok (.if_icmp .gt 11, 3) := by decide +kernel
theorem dX12_number_48 : decode cX12_number 48 = .ok (.iload_n 3, 1) := by decide +kernel
theorem dX12_number_49 : decode cX12_number 49 = .ok (.aload_n 0, 1) := by decide +kernel
theorem dX12_number_50 : decode cX12_number 50 = .ok (.getfield 82, 3) := by decide +kernel
theorem dX12_number_53 : decode cX12_number 53 = .ok (.if_icmp .ne 7, 3) := by decide +kernel
theorem dX12_number_56 : decode cX12_number 56 = .ok (.aload_n 0, 1) := by decide +kernel
theorem dX12_number_57 : decode cX12_number 57 = .ok (.invokevirtual 121, 3) := by decide +kernel
theorem dX12_number_60 : decode cX12_number 60 = .ok (.aload_n 0, 1) := by decide +kernel
theorem dX12_number_61 : decode cX12_number 61 = .ok (.invokevirtual 110, 3) := by decide +kernel
theorem dX12_number_64 : decode cX12_number 64 = .ok (.ifCond .ne 5, 3) := by decide +kernel
theorem dX12_number_67 : decode cX12_number 67 = .ok (.iload_n 1, 1) := by decide +kernel
theorem dX12_number_68 : decode cX12_number 68 = .ok (.ireturn, 1) := by decide +kernel
theorem dX12_number_69 : decode cX12_number 69 = .ok (.iconst 0, 1) := by decide +kernel
theorem dX12_number_70 : decode cX12_number 70 = .ok (.istore 5, 2) := by decide +kernel
theorem dX12_number_72 : decode cX12_number 72 = .ok (.iconst 0, 1) := by decide +kernel
theorem dX12_number_73 : decode cX12_number 73 = .ok (.istore 6, 2) := by decide +kernel
theorem dX12_number_75 : decode cX12_number 75 = .ok (.iload 6, 2) := by decide +kernel
theorem dX12_number_77 : decode cX12_number 77 = .ok (.iload 4, 2) := by decide +kernel
theorem dX12_number_79 : decode cX12_number 79 = .ok (.if_icmp .ge 29, 3) := by decide +kernel
theorem dX12_number_82 : decode cX12_number 82 = .ok (.bipush 10, 2) := by decide +kernel
theorem dX12_number_84 : decode cX12_number 84 = .ok (.iload 5, 2) := by decide +kernel
theorem dX12_number_86 : decode cX12_number 86 = .ok (.imul, 1) := by decide +kernel
theorem dX12_number_87 : decode cX12_number 87 = .ok (.aload_n 0, 1) := by decide +kernel
theorem dX12_number_88 : decode cX12_number 88 = .ok (.getfield 7, 3) := by decide +kernel
theorem dX12_number_91 : decode cX12_number 91 = .ok (.iload_n 3, 1) := by decide +kernel
theorem dX12_number_92 : decode cX12_number 92 = .ok (.iload 6, 2) := by decide +kernel
theorem dX12_number_94 : decode cX12_number 94 = .ok (.iadd, 1) := by decide +kernel
theorem dX12_number_95 : decode cX12_number 95 = .ok (.baload, 1) := by decide +kernel
theorem dX12_number_96 : decode cX12_number 96 = .ok (.iadd, 1) := by decide +kernel
theorem dX12_number_97 : decode cX12_number 97 = .ok (.bipush 48, 2) := by decide +kernel
theorem dX12_number_99 : decode cX12_number 99 = .ok (.isub, 1) := by decide +kernel
theorem dX12_number_100 : decode cX12_number 100 = .ok (.istore 5, 2) := by decide +kernel
theorem dX12_number_102 : decode cX12_number 102 = .ok (.iinc 6 1, 3) := by decide +kernel
theorem dX12_number_105 : decode cX12_number 105 = .ok (.goto (-30), 3) := by decide +kernel
theorem dX12_number_108 : decode cX12_number 108 = .ok (.aload_n 0, 1) := by decide +kernel
theorem dX12_number_109 : decode cX12_number 109 = .ok (.iload_n 3, 1) := by decide +kernel
theorem dX12_number_110 : decode cX12_number 110 = .ok (.iload 4, 2) := by decide +kernel
theorem dX12_number_112 : decode cX12_number 112 = .ok (.iadd, 1) := by decide +kernel
theorem dX12_number_113 : decode cX12_number 113 = .ok (.putfield 79, 3) := by decide +kernel
theorem dX12_number_116 : decode cX12_number 116 = .ok (.aload_n 0, 1) := by decide +kernel
theorem dX12_number_117 : decode cX12_number 117 = .ok (.aload_n 0, 1) := by decide +kernel
theorem dX12_number_118 : decode cX12_number 118 = .ok (.getfield 79, 3) := by decide +kernel
theorem dX12_number_121 : decode cX12_number 121 = .ok (.putfield 82, 3) := by decide +kernel
theorem dX12_number_124 : decode cX12_number 124 = .ok (.iload 5, 2) := by decide +kernel
theorem dX12_number_126 : decode cX12_number 126 = .ok (.i2l, 1) := by decide +kernel
theorem dX12_number_127 : decode cX12_number 127 = .ok (.iload_n 1, 1) := by decide +kernel
theorem dX12_number_128 : decode cX12_number 128 = .ok (.i2l, 1) := by decide +kernel
theorem dX12_number_129 : decode cX12_number 129 = .ok (.iload_n 2, 1) := by decide +kernel
theorem dX12_number_130 : decode cX12_number 130 = .ok (.i2l, 1) := by decide +kernel
theorem dX12_number_131 : decode cX12_number 131 = .ok (.invokestatic 56, 3) := by decide +kernel
theorem dX12_number_134 : decode cX12_number 134 = .ok (.ifCond .ne 9, 3) := by decide +kernel
theorem dX12_number_137 : decode cX12_number 137 = .ok (.aload_n 0, 1) := by decide +kernel
theorem dX12_number_138 : decode cX12_number 138 = .ok (.iconst 4, 1) := by decide +kernel
theorem dX12_number_139 : decode cX12_number 139 = .ok (.iload_n 3, 1) := by decide +kernel
theorem dX12_number_140 : decode cX12_number 140 = .ok (.invokevirtual 106, 3) := by decide +kernel
theorem dX12_number_143 : decode cX12_number 143 = .ok (.iload 5, 2) := by decide +kernel
theorem dX12_number_145 : decode cX12_number 145 = .ok (.ireturn, 1) := by decide +kernel
theorem dX12_mostOf_0 : decode cX12_mostOf 0 = .ok (.iload_n 0, 1) := by decide +kernel
theorem dX12_mostOf_1 : decode cX12_mostOf 1 = .ok (.ifCond .ne 8, 3) := by decide +kernel
theorem dX12_mostOf_4 : decode cX12_mostOf 4 = .ok (.bipush 6, 2) := by decide +kernel
theorem dX12_mostOf_6 : decode cX12_mostOf 6 = .ok (.goto 14, 3) := by decide +kernel
theorem dX12_mostOf_9 : decode cX12_mostOf 9 = .ok (.iload_n 0, 1) := by decide +kernel
theorem dX12_mostOf_10 : decode cX12_mostOf 10 = .ok (.iconst 1, 1) := by decide +kernel
theorem dX12_mostOf_11 : decode cX12_mostOf 11 = .ok (.if_icmp .ne 8, 3) := by decide +kernel
theorem dX12_mostOf_14 : decode cX12_mostOf 14 = .ok (.bipush 8, 2) := by decide +kernel
theorem dX12_mostOf_16 : decode cX12_mostOf 16 = .ok (.goto 4, 3) := by decide +kernel
theorem dX12_mostOf_19 : decode cX12_mostOf 19 = .ok (.iconst 5, 1) := by decide +kernel
theorem dX12_mostOf_20 : decode cX12_mostOf 20 = .ok (.ireturn, 1) := by decide +kernel
theorem dX12_of_0 : decode cX12_of 0 = .ok (.bipush 6, 2) := by decide +kernel
theorem dX12_of_2 : decode cX12_of 2 = .ok (.iload_n 0, 1) := by decide +kernel
theorem dX12_of_3 : decode cX12_of 3 = .ok (.imul, 1) := by decide +kernel
theorem dX12_of_4 : decode cX12_of 4 = .ok (.iload_n 1, 1) := by decide +kernel
theorem dX12_of_5 : decode cX12_of 5 = .ok (.iadd, 1) := by decide +kernel
theorem dX12_of_6 : decode cX12_of 6 = .ok (.ireturn, 1) := by decide +kernel
theorem dX12_nameOf_0 : decode cX12_nameOf 0 = .ok (.iconst 0, 1) := by decide +kernel
theorem dX12_nameOf_1 : decode cX12_nameOf 1 = .ok (.istore_n 3, 1) := by decide +kernel
theorem dX12_nameOf_2 : decode cX12_nameOf 2 = .ok (.iload_n 3, 1) := by decide +kernel
theorem dX12_nameOf_3 : decode cX12_nameOf 3 = .ok (.aload_n 0, 1) := by decide +kernel
theorem dX12_nameOf_4 : decode cX12_nameOf 4 = .ok (.iconst 0, 1) := by decide +kernel
theorem dX12_nameOf_5 : decode cX12_nameOf 5 = .ok (.iload_n 1, 1) := by decide +kernel
theorem dX12_nameOf_6 : decode cX12_nameOf 6 = .ok (.iadd, 1) := by decide +kernel
theorem dX12_nameOf_7 : decode cX12_nameOf 7 = .ok (.iaload, 1) := by decide +kernel
theorem dX12_nameOf_8 : decode cX12_nameOf 8 = .ok (.if_icmp .ge 25, 3) := by decide +kernel
theorem dX12_nameOf_11 : decode cX12_nameOf 11 = .ok (.aload_n 0, 1) := by decide +kernel
theorem dX12_nameOf_12 : decode cX12_nameOf 12 = .ok (.iconst 4, 1) := by decide +kernel
theorem dX12_nameOf_13 : decode cX12_nameOf 13 = .ok (.bipush 8, 2) := by decide +kernel
theorem dX12_nameOf_15 : decode cX12_nameOf 15 = .ok (.iload_n 1, 1) := by decide +kernel
theorem dX12_nameOf_16 : decode cX12_nameOf 16 = .ok (.imul, 1) := by decide +kernel
theorem dX12_nameOf_17 : decode cX12_nameOf 17 = .ok (.iadd, 1) := by decide +kernel
theorem dX12_nameOf_18 : decode cX12_nameOf 18 = .ok (.iload_n 3, 1) := by decide +kernel
theorem dX12_nameOf_19 : decode cX12_nameOf 19 = .ok (.iadd, 1) := by decide +kernel
theorem dX12_nameOf_20 : decode cX12_nameOf 20 = .ok (.iaload, 1) := by decide +kernel
theorem dX12_nameOf_21 : decode cX12_nameOf 21 = .ok (.iload_n 2, 1) := by decide +kernel
theorem dX12_nameOf_22 : decode cX12_nameOf 22 = .ok (.if_icmp .ne 5, 3) := by decide +kernel
theorem dX12_nameOf_25 : decode cX12_nameOf 25 = .ok (.iload_n 3, 1) := by decide +kernel
theorem dX12_nameOf_26 : decode cX12_nameOf 26 = .ok (.ireturn, 1) := by decide +kernel
theorem dX12_nameOf_27 : decode cX12_nameOf 27 = .ok (.iinc 3 1, 3) := by decide +kernel
theorem dX12_nameOf_30 : decode cX12_nameOf 30 = .ok (.goto (-28), 3) := by decide +kernel
theorem dX12_nameOf_33 : decode cX12_nameOf 33 = .ok (.iconst (-1), 1) := by decide +kernel
theorem dX12_nameOf_34 : decode cX12_nameOf 34 = .ok (.ireturn, 1) := by decide +kernel
theorem dX12_newRead_0 : decode cX12_newRead 0 = .ok (.aload_n 0, 1) := by decide +kernel
theorem dX12_newRead_1 : decode cX12_newRead 1 = .ok (.getfield 21, 3) := by decide +kernel
theorem dX12_newRead_4 : decode cX12_newRead 4 = .ok (.iconst 0, 1) := by decide +kernel
theorem dX12_newRead_5 : decode cX12_newRead 5 = .ok (.iload_n 1, 1) := by decide +kernel
theorem dX12_newRead_6 : decode cX12_newRead 6 = .ok (.iadd, 1) := by decide +kernel
theorem dX12_newRead_7 : decode cX12_newRead 7 = .ok (.iaload, 1) := by decide +kernel
theorem dX12_newRead_8 : decode cX12_newRead 8 = .ok (.istore_n 2, 1) := by decide +kernel
theorem dX12_newRead_9 : decode cX12_newRead 9 = .ok (.iload_n 2, 1) := by decide +kernel
theorem dX12_newRead_10 : decode cX12_newRead 10 = .ok (.iload_n 1, 1) := by decide +kernel
theorem dX12_newRead_11 : decode cX12_newRead 11 = .ok (.invokestatic 154, 3) := by decide +kernel
theorem dX12_newRead_14 : decode cX12_newRead 14 = .ok (.if_icmp .ne 13, 3) := by decide +kernel
theorem dX12_newRead_17 : decode cX12_newRead 17 = .ok (.aload_n 0, 1) := by decide +kernel
theorem dX12_newRead_18 : decode cX12_newRead 18 = .ok (.bipush 6, 2) := by decide +kernel
theorem dX12_newRead_20 : decode cX12_newRead 20 = .ok (.aload_n 0, 1) := by decide +kernel
theorem dX12_newRead_21 : decode cX12_newRead 21 = .ok (.invokevirtual 102, 3) := by decide +kernel
theorem dX12_newRead_24 : decode cX12_newRead 24 = .ok (.invokevirtual 106, 3) := by decide +kernel
theorem dX12_newRead_27 : decode cX12_newRead 27 = .ok (.aload_n 0, 1) := by decide +kernel
theorem dX12_newRead_28 : decode cX12_newRead 28 = .ok (.invokevirtual 110, 3) := by decide +kernel
theorem dX12_newRead_31 : decode cX12_newRead 31 = .ok (.ifCond .ne 5, 3) := by decide +kernel
theorem dX12_newRead_34 : decode cX12_newRead 34 = .ok (.iconst 0, 1) := by decide +kernel
theorem dX12_newRead_35 : decode cX12_newRead 35 = .ok (.ireturn, 1) := by decide +kernel
theorem dX12_newRead_36 : decode cX12_newRead 36 = .ok (.aload_n 0, 1) := by decide +kernel
theorem dX12_newRead_37 : decode cX12_newRead 37 = .ok (.invokevirtual 139, 3) := by decide +kernel
theorem dX12_newRead_40 : decode cX12_newRead 40 = .ok (.aload_n 0, 1) := by decide +kernel
theorem dX12_newRead_41 : decode cX12_newRead 41 = .ok (.invokevirtual 102, 3) := by decide +kernel
theorem dX12_newRead_44 : decode cX12_newRead 44 = .ok (.istore_n 3, 1) := by decide +kernel
theorem dX12_newRead_45 : decode cX12_newRead 45 = .ok (.aload_n 0, 1) := by decide +kernel
theorem dX12_newRead_46 : decode cX12_newRead 46 = .ok (.invokevirtual 158, 3) := by decide +kernel
theorem dX12_newRead_49 : decode cX12_newRead 49 = .ok (.ifCond .ne 7, 3) := by decide +kernel
theorem dX12_newRead_52 : decode cX12_newRead 52 = .ok (.aload_n 0, 1) := by decide +kernel
theorem dX12_newRead_53 : decode cX12_newRead 53 = .ok (.invokevirtual 121, 3) := by decide +kernel
theorem dX12_newRead_56 : decode cX12_newRead 56 = .ok (.iconst 0, 1) := by decide +kernel
theorem dX12_newRead_57 : decode cX12_newRead 57 = .ok (.istore 4, 2) := by decide +kernel
theorem dX12_newRead_59 : decode cX12_newRead 59 = .ok (.iload 4, 2) := by decide +kernel
theorem dX12_newRead_61 : decode cX12_newRead 61 = .ok (.iconst 2, 1) := by decide +kernel
theorem dX12_newRead_62 : decode cX12_newRead 62 = .ok (.if_icmp .gt 39, 3) := by decide +kernel
theorem dX12_newRead_65 : decode cX12_newRead 65 = .ok (.aload_n 0, 1) := by decide +kernel
theorem dX12_newRead_66 : decode cX12_newRead 66 = .ok (.invokevirtual 110, 3) := by decide +kernel
theorem dX12_newRead_69 : decode cX12_newRead 69 = .ok (.ifCond .eq 32, 3) := by decide +kernel
theorem dX12_newRead_72 : decode cX12_newRead 72 = .ok (.aload_n 0, 1) := by decide +kernel
theorem dX12_newRead_73 : decode cX12_newRead 73 = .ok (.getfield 21, 3) := by decide +kernel
theorem dX12_newRead_76 : decode cX12_newRead 76 = .ok (.iload 4, 2) := by decide +kernel
theorem dX12_newRead_78 : decode cX12_newRead 78 = .ok (.aload_n 0, 1) := by decide +kernel
theorem dX12_newRead_79 : decode cX12_newRead 79 = .ok (.getfield 127, 3) := by decide +kernel
theorem dX12_newRead_82 : decode cX12_newRead 82 = .ok (.invokestatic 161, 3) := by decide +kernel
theorem dX12_newRead_85 : decode cX12_newRead 85 = .ok (.iconst (-1), 1) := by decide +kernel
theorem dX12_newRead_86 : decode cX12_newRead 86 = .ok (.if_icmp .eq 9, 3) := by decide +kernel
theorem dX12_newRead_89 : decode cX12_newRead 89 = .ok (.aload_n 0, 1) := by decide +kernel
theorem dX12_newRead_90 : decode cX12_newRead 90 = .ok (.iconst 2, 1) := by decide +kernel
theorem dX12_newRead_91 : decode cX12_newRead 91 = .ok (.iload_n 3, 1) := by decide +kernel
theorem dX12_newRead_92 : decode cX12_newRead 92 = .ok (.invokevirtual 106, 3) := by decide +kernel
theorem dX12_newRead_95 : decode cX12_newRead 95 = .ok (.iinc 4 1, 3) := by decide +kernel
theorem dX12_newRead_98 : decode cX12_newRead 98 = .ok (.goto (-39), 3) := by decide +kernel
theorem dX12_newRead_101 : decode cX12_newRead 101 = .ok (.aload_n 0, 1) := by decide +kernel
theorem dX12_newRead_102 : decode cX12_newRead 102 = .ok (.invokevirtual 110, 3) := by decide +kernel
theorem dX12_newRead_105 : decode cX12_newRead 105 = .ok (.ifCond .ne 5, 3) := by decide +kernel
theorem dX12_newRead_108 : decode cX12_newRead 108 = .ok (.iconst 0, 1) := by decide +kernel
theorem dX12_newRead_109 : decode cX12_newRead 109 = .ok (.ireturn, 1) := by decide +kernel
theorem dX12_newRead_110 : decode cX12_newRead 110 = .ok (.aload_n 0, 1) := by decide +kernel
theorem dX12_newRead_111 : decode cX12_newRead 111 = .ok (.getfield 21, 3) := by decide +kernel
theorem dX12_newRead_114 : decode cX12_newRead 114 = .ok (.iconst 4, 1) := by decide +kernel
theorem dX12_newRead_115 : decode cX12_newRead 115 = .ok (.bipush 8, 2) := by decide +kernel
theorem dX12_newRead_117 : decode cX12_newRead 117 = .ok (.iload_n 1, 1) := by decide +kernel
theorem dX12_newRead_118 : decode cX12_newRead 118 = .ok (.imul, 1) := by decide +kernel
theorem dX12_newRead_119 : decode cX12_newRead 119 = .ok (.iadd, 1) := by decide +kernel
theorem dX12_newRead_120 : decode cX12_newRead 120 = .ok (.iload_n 2, 1) := by decide +kernel
theorem dX12_newRead_121 : decode cX12_newRead 121 = .ok (.iadd, 1) := by decide +kernel
theorem dX12_newRead_122 : decode cX12_newRead 122 = .ok (.aload_n 0, 1) := by decide +kernel
theorem dX12_newRead_123 : decode cX12_newRead 123 = .ok (.getfield 127, 3) := by decide +kernel
theorem dX12_newRead_126 : decode cX12_newRead 126 = .ok (.iastore, 1) := by decide +kernel
theorem dX12_newRead_127 : decode cX12_newRead 127 = .ok (.aload_n 0, 1) := by decide +kernel
theorem dX12_newRead_128 : decode cX12_newRead 128 = .ok (.invokevirtual 139, 3) := by decide +kernel
theorem dX12_newRead_131 : decode cX12_newRead 131 = .ok (.iload_n 2, 1) := by decide +kernel
theorem dX12_newRead_132 : decode cX12_newRead 132 = .ok (.ireturn, 1) := by decide +kernel
theorem dX12_oneRead_0 : decode cX12_oneRead 0 = .ok (.aload_n 0, 1) := by decide +kernel
theorem dX12_oneRead_1 : decode cX12_oneRead 1 = .ok (.aload_n 0, 1) := by decide +kernel
theorem dX12_oneRead_2 : decode cX12_oneRead 2 = .ok (.invokevirtual 102, 3) := by decide +kernel
theorem dX12_oneRead_5 : decode cX12_oneRead 5 = .ok (.putfield 165, 3) := by decide +kernel
theorem dX12_oneRead_8 : decode cX12_oneRead 8 = .ok (.aload_n 0, 1) := by decide +kernel
theorem dX12_oneRead_9 : decode cX12_oneRead 9 = .ok (.invokevirtual 110, 3) := by decide +kernel
theorem dX12_oneRead_12 : decode cX12_oneRead 12 = .ok (.ifCond .eq 14, 3) := by decide +kernel
theorem dX12_oneRead_15 : decode cX12_oneRead 15 = .ok (.aload_n 0, 1) := by decide +kernel
theorem dX12_oneRead_16 : decode cX12_oneRead 16 = .ok (.invokevirtual 158, 3) := by decide +kernel
theorem dX12_oneRead_19 : decode cX12_oneRead 19 = .ok (.ifCond .ne 7, 3) := by decide +kernel
theorem dX12_oneRead_22 : decode cX12_oneRead 22 = .ok (.aload_n 0, 1) := by decide +kernel
theorem dX12_oneRead_23 : decode cX12_oneRead 23 = .ok (.invokevirtual 121, 3) := by decide +kernel
theorem dX12_oneRead_26 : decode cX12_oneRead 26 = .ok (.aload_n 0, 1) := by decide +kernel
theorem dX12_oneRead_27 : decode cX12_oneRead 27 = .ok (.invokevirtual 110, 3) := by decide +kernel
theorem dX12_oneRead_30 : decode cX12_oneRead 30 = .ok (.ifCond .ne 5, 3) := by decide +kernel
theorem dX12_oneRead_33 : decode cX12_oneRead 33 = .ok (.iconst (-1), 1) := by decide +kernel
theorem dX12_oneRead_34 : decode cX12_oneRead 34 = .ok (.ireturn, 1) := by decide +kernel
theorem dX12_oneRead_35 : decode cX12_oneRead 35 = .ok (.aload_n 1, 1) := by decide +kernel
theorem dX12_oneRead_36 : decode cX12_oneRead 36 = .ok (.iload_n 2, 1) := by decide +kernel
theorem dX12_oneRead_37 : decode cX12_oneRead 37 = .ok (.aload_n 0, 1) := by decide +kernel
theorem dX12_oneRead_38 : decode cX12_oneRead 38 = .ok (.getfield 127, 3) := by decide +kernel
theorem dX12_oneRead_41 : decode cX12_oneRead 41 = .ok (.invokestatic 161, 3) := by decide +kernel
theorem dX12_oneRead_44 : decode cX12_oneRead 44 = .ok (.istore_n 3, 1) := by decide +kernel
theorem dX12_oneRead_45 : decode cX12_oneRead 45 = .ok (.iload_n 3, 1) := by decide +kernel
theorem dX12_oneRead_46 : decode cX12_oneRead 46 = .ok (.iconst (-1), 1) := by decide +kernel
theorem dX12_oneRead_47 : decode cX12_oneRead 47 = .ok (.if_icmp .ne 15, 3) := by decide +kernel
theorem dX12_oneRead_50 : decode cX12_oneRead 50 = .ok (.aload_n 0, 1) := by decide +kernel
theorem dX12_oneRead_51 : decode cX12_oneRead 51 = .ok (.iconst 3, 1) := by decide +kernel
theorem dX12_oneRead_52 : decode cX12_oneRead 52 = .ok (.aload_n 0, 1) := by decide +kernel
theorem dX12_oneRead_53 : decode cX12_oneRead 53 = .ok (.getfield 165, 3) := by decide +kernel
theorem dX12_oneRead_56 : decode cX12_oneRead 56 = .ok (.invokevirtual 106, 3) := by decide +kernel
theorem dX12_oneRead_59 : decode cX12_oneRead 59 = .ok (.goto 7, 3) := by decide +kernel
theorem dX12_oneRead_62 : decode cX12_oneRead 62 = .ok (.aload_n 0, 1) := by decide +kernel
theorem dX12_oneRead_63 : decode cX12_oneRead 63 = .ok (.invokevirtual 139, 3) := by decide +kernel
theorem dX12_oneRead_66 : decode cX12_oneRead 66 = .ok (.iload_n 3, 1) := by decide +kernel
theorem dX12_oneRead_67 : decode cX12_oneRead 67 = .ok (.ireturn, 1) := by decide +kernel
theorem dX12_namesRead_0 : decode cX12_namesRead 0 = .ok (.aload_n 0, 1) := by decide +kernel
theorem dX12_namesRead_1 : decode cX12_namesRead 1 = .ok (.iload_n 1, 1) := by decide +kernel
theorem dX12_namesRead_2 : decode cX12_namesRead 2 = .ok (.invokevirtual 168, 3) := by decide +kernel
theorem dX12_namesRead_5 : decode cX12_namesRead 5 = .ok (.istore_n 2, 1) := by decide +kernel
theorem dX12_namesRead_6 : decode cX12_namesRead 6 = .ok (.aload_n 0, 1) := by decide +kernel
theorem dX12_namesRead_7 : decode cX12_namesRead 7 = .ok (.invokevirtual 110, 3) := by decide +kernel
theorem dX12_namesRead_10 : decode cX12_namesRead 10 = .ok (.ifCond .eq 15, 3) := by decide +kernel
theorem dX12_namesRead_13 : decode cX12_namesRead 13 = .ok (.aload_n 0, 1) := by decide +kernel
theorem dX12_namesRead_14 : decode cX12_namesRead 14 = .ok (.getfield 21, 3) := by decide +kernel
theorem dX12_namesRead_17 : decode cX12_namesRead 17 = .ok (.iconst 0, 1) := by decide +kernel
theorem dX12_namesRead_18 : decode cX12_namesRead 18 = .ok (.iload_n 1, 1) := by decide +kernel
theorem dX12_namesRead_19 : decode cX12_namesRead 19 = .ok (.iadd, 1) := by decide +kernel
theorem dX12_namesRead_20 : decode cX12_namesRead 20 = .ok (.dup2, 1) := by decide +kernel
theorem dX12_namesRead_21 : decode cX12_namesRead 21 = .ok (.iaload, 1) := by decide +kernel
theorem dX12_namesRead_22 : decode cX12_namesRead 22 = .ok (.iconst 1, 1) := by decide +kernel
theorem dX12_namesRead_23 : decode cX12_namesRead 23 = .ok (.iadd, 1) := by decide +kernel
theorem dX12_namesRead_24 : decode cX12_namesRead 24 = .ok (.iastore, 1) := by decide +kernel
theorem dX12_namesRead_25 : decode cX12_namesRead 25 = .ok (.return_, 1) := by decide +kernel
theorem dX12_groupRead_0 : decode cX12_groupRead 0 = .ok (.aload_n 0, 1) := by decide +kernel
theorem dX12_groupRead_1 : decode cX12_groupRead 1 = .ok (.iconst 2, 1) := by decide +kernel
theorem dX12_groupRead_2 : decode cX12_groupRead 2 = .ok (.invokevirtual 168, 3) := by decide +kernel
theorem dX12_groupRead_5 : decode cX12_groupRead 5 = .ok (.istore_n 1, 1) := by decide +kernel
theorem dX12_groupRead_6 : decode cX12_groupRead 6 = .ok (.aload_n 0, 1) := by decide +kernel
theorem dX12_groupRead_7 : decode cX12_groupRead 7 = .ok (.ldc 63, 2) := by decide +kernel
theorem dX12_groupRead_9 : decode cX12_groupRead 9 = .ok (.invokevirtual 171, 3) := by decide +kernel
theorem dX12_groupRead_12 : decode cX12_groupRead 12 = .ok (.aload_n 0, 1) := by decide +kernel
theorem dX12_groupRead_13 : decode cX12_groupRead 13 = .ok (.iconst 1, 1) := by decide +kernel
theorem dX12_groupRead_14 : decode cX12_groupRead 14 = .ok (.bipush 40, 2) := by decide +kernel
theorem dX12_groupRead_16 : decode cX12_groupRead 16 = .ok (.invokevirtual 174, 3) := by decide +kernel
theorem dX12_groupRead_19 : decode cX12_groupRead 19 = .ok (.istore_n 2, 1) := by decide +kernel
theorem dX12_groupRead_20 : decode cX12_groupRead 20 = .ok (.iconst 0, 1) := by decide +kernel
theorem dX12_groupRead_21 : decode cX12_groupRead 21 = .ok (.istore_n 3, 1) := by decide +kernel
theorem dX12_groupRead_22 : decode cX12_groupRead 22 = .ok (.iconst 0, 1) := by decide +kernel
theorem dX12_groupRead_23 : decode cX12_groupRead 23 = .ok (.istore 4, 2) := by decide +kernel
theorem dX12_groupRead_25 : decode cX12_groupRead 25 = .ok (.aload_n 0, 1) := by decide +kernel
theorem dX12_groupRead_26 : decode cX12_groupRead 26 = .ok (.ldc 64, 2) := by decide +kernel
theorem dX12_groupRead_28 : decode cX12_groupRead 28 = .ok (.invokevirtual 142, 3) := by decide +kernel
theorem dX12_groupRead_31 : decode cX12_groupRead 31 = .ok (.ifCond .eq 15, 3) := by decide +kernel
theorem dX12_groupRead_34 : decode cX12_groupRead 34 = .ok (.aload_n 0, 1) := by decide +kernel
theorem dX12_groupRead_35 : decode cX12_groupRead 35 = .ok (.iconst 0, 1) := by decide +kernel
theorem dX12_groupRead_36 : decode cX12_groupRead 36 = .ok (.bipush 99, 2) := by decide +kernel
theorem dX12_groupRead_38 : decode cX12_groupRead 38 = .ok (.invokevirtual 174, 3) := by decide +kernel
theorem dX12_groupRead_41 : decode cX12_groupRead 41 = .ok (.istore 4, 2) := by decide +kernel
theorem dX12_groupRead_43 : decode cX12_groupRead 43 = .ok (.goto 10, 3) := by decide +kernel
theorem dX12_groupRead_46 : decode cX12_groupRead 46 = .ok (.aload_n 0, 1) := by decide +kernel
theorem dX12_groupRead_47 : decode cX12_groupRead 47 = .ok (.ldc 65, 2) := by decide +kernel
theorem dX12_groupRead_49 : decode cX12_groupRead 49 = .ok (.invokevirtual 142, 3) := by decide +kernel
theorem dX12_groupRead_52 : decode cX12_groupRead 52 = .ok (.istore_n 3, 1) := by decide +kernel
theorem dX12_groupRead_53 : decode cX12_groupRead 53 = .ok (.aload_n 0, 1) := by decide +kernel
theorem dX12_groupRead_54 : decode cX12_groupRead 54 = .ok (.ldc 66, 2) := by decide +kernel
theorem dX12_groupRead_56 : decode cX12_groupRead 56 = .ok (.invokevirtual 142, 3) := by decide +kernel
theorem dX12_groupRead_59 : decode cX12_groupRead 59 = .ok (.ifCond .eq 13, 3) := by decide +kernel
theorem dX12_groupRead_62 : decode cX12_groupRead 62 = .ok (.aload_n 0, 1) := by decide +kernel
theorem dX12_groupRead_63 : decode cX12_groupRead 63 = .ok (.iconst 1, 1) := by decide +kernel
theorem dX12_groupRead_64 : decode cX12_groupRead 64 = .ok (.bipush 8, 2) := by decide +kernel
theorem dX12_groupRead_66 : decode cX12_groupRead 66 = .ok (.invokevirtual 174, 3) := by decide +kernel
theorem dX12_groupRead_69 : decode cX12_groupRead 69 = .ok (.goto 4, 3) := by decide +kernel
theorem dX12_groupRead_72 : decode cX12_groupRead 72 = .ok (.iconst 1, 1) := by decide +kernel
theorem dX12_groupRead_73 : decode cX12_groupRead 73 = .ok (.istore 5, 2) := by decide +kernel
theorem dX12_groupRead_75 : decode cX12_groupRead 75 = .ok (.aload_n 0, 1) := by decide +kernel
theorem dX12_groupRead_76 : decode cX12_groupRead 76 = .ok (.invokevirtual 110, 3) := by decide +kernel
theorem dX12_groupRead_79 : decode cX12_groupRead 79 = .ok (.ifCond .ne 4, 3) := by decide +kernel
theorem dX12_groupRead_82 : decode cX12_groupRead 82 = .ok (.return_, 1) := by decide +kernel
theorem dX12_groupRead_83 : decode cX12_groupRead 83 = .ok (.aload_n 0, 1) := by decide +kernel
theorem dX12_groupRead_84 : decode cX12_groupRead 84 = .ok (.getfield 21, 3) := by decide +kernel
theorem dX12_groupRead_87 : decode cX12_groupRead 87 = .ok (.bipush 28, 2) := by decide +kernel
theorem dX12_groupRead_89 : decode cX12_groupRead 89 = .ok (.iload_n 1, 1) := by decide +kernel
theorem dX12_groupRead_90 : decode cX12_groupRead 90 = .ok (.iadd, 1) := by decide +kernel
theorem dX12_groupRead_91 : decode cX12_groupRead 91 = .ok (.iload_n 2, 1) := by decide +kernel
theorem dX12_groupRead_92 : decode cX12_groupRead 92 = .ok (.iastore, 1) := by decide +kernel
theorem dX12_groupRead_93 : decode cX12_groupRead 93 = .ok (.aload_n 0, 1) := by decide +kernel
theorem dX12_groupRead_94 : decode cX12_groupRead 94 = .ok (.getfield 21, 3) := by decide +kernel
theorem dX12_groupRead_97 : decode cX12_groupRead 97 = .ok (.bipush 33, 2) := by decide +kernel
theorem dX12_groupRead_99 : decode cX12_groupRead 99 = .ok (.iload_n 1, 1) := by decide +kernel
theorem dX12_groupRead_100 : decode cX12_groupRead 100 = .ok (.iadd, 1) := by decide +kernel
theorem dX12_groupRead_101 : decode cX12_groupRead 101 = .ok (.iload 4, 2) := by decide +kernel
theorem dX12_groupRead_103 : decode cX12_groupRead 103 = .ok (.iastore, 1) := by decide +kernel
theorem dX12_groupRead_104 : decode cX12_groupRead 104 = .ok (.aload_n 0, 1) := by decide +kernel
theorem dX12_groupRead_105 : decode cX12_groupRead 105 = .ok (.getfield 21, 3) := by decide +kernel
theorem dX12_groupRead_108 : decode cX12_groupRead 108 = .ok (.bipush 38, 2) := by decide +kernel
theorem dX12_groupRead_110 : decode cX12_groupRead 110 = .ok (.iload_n 1, 1) := by decide +kernel
theorem dX12_groupRead_111 : decode cX12_groupRead 111 = .ok (.iadd, 1) := by decide +kernel
theorem dX12_groupRead_112 : decode cX12_groupRead 112 = .ok (.iload_n 3, 1) := by decide +kernel
theorem dX12_groupRead_113 : decode cX12_groupRead 113 = .ok (.invokestatic 178, 3) := by decide +kernel
theorem dX12_groupRead_116 : decode cX12_groupRead 116 = .ok (.iastore, 1) := by decide +kernel
theorem dX12_groupRead_117 : decode cX12_groupRead 117 = .ok (.aload_n 0, 1) := by decide +kernel
theorem dX12_groupRead_118 : decode cX12_groupRead 118 = .ok (.getfield 21, 3) := by decide +kernel
theorem dX12_groupRead_121 : decode cX12_groupRead 121 = .ok (.bipush 43, 2) := by decide +kernel
theorem dX12_groupRead_123 : decode cX12_groupRead 123 = .ok (.iload_n 1, 1) := by decide +kernel
theorem dX12_groupRead_124 : decode cX12_groupRead 124 = .ok (.iadd, 1) := by decide +kernel
theorem dX12_groupRead_125 : decode cX12_groupRead 125 = .ok (.iload 5, 2) := by decide +kernel
theorem dX12_groupRead_127 : decode cX12_groupRead 127 = .ok (.iastore, 1) := by decide +kernel
theorem dX12_groupRead_128 : decode cX12_groupRead 128 = .ok (.aload_n 0, 1) := by decide +kernel
theorem dX12_groupRead_129 : decode cX12_groupRead 129 = .ok (.getfield 21, 3) := by decide +kernel
theorem dX12_groupRead_132 : decode cX12_groupRead 132 = .ok (.iconst 2, 1) := by decide +kernel
theorem dX12_groupRead_133 : decode cX12_groupRead 133 = .ok (.dup2, 1) := by decide +kernel
theorem dX12_groupRead_134 : decode cX12_groupRead 134 = .ok (.iaload, 1) := by decide +kernel
theorem dX12_groupRead_135 : decode cX12_groupRead 135 = .ok (.iconst 1, 1) := by decide +kernel
theorem dX12_groupRead_136 : decode cX12_groupRead 136 = .ok (.iadd, 1) := by decide +kernel
theorem dX12_groupRead_137 : decode cX12_groupRead 137 = .ok (.iastore, 1) := by decide +kernel
theorem dX12_groupRead_138 : decode cX12_groupRead 138 = .ok (.return_, 1) := by decide +kernel
theorem dX12_memberRead_0 : decode cX12_memberRead 0 = .ok (.aload_n 0, 1) := by decide +kernel
theorem dX12_memberRead_1 : decode cX12_memberRead 1 = .ok (.invokevirtual 139, 3) := by decide +kernel
theorem dX12_memberRead_4 : decode cX12_memberRead 4 = .ok (.aload_n 0, 1) := by decide +kernel
theorem dX12_memberRead_5 : decode cX12_memberRead 5 = .ok (.aload_n 0, 1) := by decide +kernel
theorem dX12_memberRead_6 : decode cX12_memberRead 6 = .ok (.getfield 21, 3) := by decide +kernel
theorem dX12_memberRead_9 : decode cX12_memberRead 9 = .ok (.iconst 0, 1) := by decide +kernel
theorem dX12_memberRead_10 : decode cX12_memberRead 10 = .ok (.invokevirtual 182, 3) := by decide +kernel
theorem dX12_memberRead_13 : decode cX12_memberRead 13 = .ok (.istore_n 1, 1) := by decide +kernel
theorem dX12_memberRead_14 : decode cX12_memberRead 14 = .ok (.aload_n 0, 1) := by decide +kernel
theorem dX12_memberRead_15 : decode cX12_memberRead 15 = .ok (.getfield 165, 3) := by decide +kernel
theorem dX12_memberRead_18 : decode cX12_memberRead 18 = .ok (.istore_n 2, 1) := by decide +kernel
theorem dX12_memberRead_19 : decode cX12_memberRead 19 = .ok (.aload_n 0, 1) := by decide +kernel
theorem dX12_memberRead_20 : decode cX12_memberRead 20 = .ok (.sipush 486, 3) := by decide +kernel
theorem dX12_memberRead_23 : decode cX12_memberRead 23 = .ok (.invokevirtual 171, 3) := by decide +kernel
theorem dX12_memberRead_26 : decode cX12_memberRead 26 = .ok (.aload_n 0, 1) := by decide +kernel
theorem dX12_memberRead_27 : decode cX12_memberRead 27 = .ok (.aload_n 0, 1) := by decide +kernel
theorem dX12_memberRead_28 : decode cX12_memberRead 28 = .ok (.getfield 21, 3) := by decide +kernel
theorem dX12_memberRead_31 : decode cX12_memberRead 31 = .ok (.iconst 2, 1) := by decide +kernel
theorem dX12_memberRead_32 : decode cX12_memberRead 32 = .ok (.invokevirtual 182, 3) := by decide +kernel
theorem dX12_memberRead_35 : decode cX12_memberRead 35 = .ok (.istore_n 3, 1) := by decide +kernel
theorem dX12_memberRead_36 : decode cX12_memberRead 36 = .ok (.aload_n 0, 1) := by decide +kernel
theorem dX12_memberRead_37 : decode cX12_memberRead 37 = .ok (.invokevirtual 110, 3) := by decide +kernel
theorem dX12_memberRead_40 : decode cX12_memberRead 40 = .ok (.ifCond .eq 25, 3) := by decide +kernel
theorem dX12_memberRead_43 : decode cX12_memberRead 43 = .ok (.aload_n 0, 1) := by decide +kernel
theorem dX12_memberRead_44 : decode cX12_memberRead 44 = .ok (.getfield 21, 3) := by decide +kernel
theorem dX12_memberRead_47 : decode cX12_memberRead 47 = .ok (.bipush 48, 2) := by decide +kernel
theorem dX12_memberRead_49 : decode cX12_memberRead 49 = .ok (.iload_n 3, 1) := by decide +kernel
theorem dX12_memberRead_50 : decode cX12_memberRead 50 = .ok (.iadd, 1) := by decide +kernel
theorem dX12_memberRead_51 : decode cX12_memberRead 51 = .ok (.iaload, 1) := by decide +kernel
theorem dX12_memberRead_52 : decode cX12_memberRead 52 = .ok (.iload_n 1, 1) := by decide +kernel
theorem dX12_memberRead_53 : decode cX12_memberRead 53 = .ok (.invokestatic 186, 3) := by decide +kernel
theorem dX12_memberRead_56 : decode cX12_memberRead 56 = .ok (.ifCond .eq 9, 3) := by decide +kernel
theorem dX12_memberRead_59 : decode cX12_memberRead 59 = .ok (.aload_n 0, 1) := by decide +kernel
theorem dX12_memberRead_60 : decode cX12_memberRead 60 = .ok (.iconst 5, 1) := by decide +kernel
theorem dX12_memberRead_61 : decode cX12_memberRead 61 = .ok (.iload_n 2, 1) := by decide +kernel
theorem dX12_memberRead_62 : decode cX12_memberRead 62 = .ok (.invokevirtual 106, 3) := by decide +kernel
theorem dX12_memberRead_65 : decode cX12_memberRead 65 = .ok (.aload_n 0, 1) := by decide +kernel
theorem dX12_memberRead_66 : decode cX12_memberRead 66 = .ok (.ldc 68, 2) := by decide +kernel
theorem dX12_memberRead_68 : decode cX12_memberRead 68 = .ok (.invokevirtual 171, 3) := by decide +kernel
theorem dX12_memberRead_71 : decode cX12_memberRead 71 = .ok (.aload_n 0, 1) := by decide +kernel
theorem dX12_memberRead_72 : decode cX12_memberRead 72 = .ok (.iconst 1, 1) := by decide +kernel
theorem dX12_memberRead_73 : decode cX12_memberRead 73 = .ok (.sipush 255, 3) := by decide +kernel
theorem dX12_memberRead_76 : decode cX12_memberRead 76 = .ok (.invokevirtual 174, 3) := by decide +kernel
theorem dX12_memberRead_79 : decode cX12_memberRead 79 = .ok (.istore 4, 2) := by decide +kernel
theorem dX12_memberRead_81 : decode cX12_memberRead 81 = .ok (.aload_n 0, 1) := by decide +kernel
theorem dX12_memberRead_82 : decode cX12_memberRead 82 = .ok (.ldc 69, 2) := by decide +kernel
theorem dX12_memberRead_84 : decode cX12_memberRead 84 = .ok (.invokevirtual 142, 3) := by decide +kernel
theorem dX12_memberRead_87 : decode cX12_memberRead 87 = .ok (.ifCond .eq 13, 3) := by decide +kernel
theorem dX12_memberRead_90 : decode cX12_memberRead 90 = .ok (.aload_n 0, 1) := by decide +kernel
theorem dX12_memberRead_91 : decode cX12_memberRead 91 = .ok (.iconst 0, 1) := by decide +kernel
theorem dX12_memberRead_92 : decode cX12_memberRead 92 = .ok (.bipush 99, 2) := by decide +kernel
theorem dX12_memberRead_94 : decode cX12_memberRead 94 = .ok (.invokevirtual 174, 3) := by decide +kernel
theorem dX12_memberRead_97 : decode cX12_memberRead 97 = .ok (.goto 4, 3) := by decide +kernel
theorem dX12_memberRead_100 : decode cX12_memberRead 100 = .ok (.iconst 1, 1) := by decide +kernel
theorem dX12_memberRead_101 : decode cX12_memberRead 101 = .ok (.istore 5, 2) := by decide +kernel
theorem dX12_memberRead_103 : decode cX12_memberRead 103 = .ok (.aload_n 0, 1) := by decide +kernel
theorem dX12_memberRead_104 : decode cX12_memberRead 104 = .ok (.invokevirtual 110, 3) := by decide +kernel
theorem dX12_memberRead_107 : decode cX12_memberRead 107 = .ok (.ifCond .ne 4, 3) := by decide +kernel
theorem dX12_memberRead_110 : decode cX12_memberRead 110 = .ok (.return_, 1) := by decide +kernel
theorem dX12_memberRead_111 : decode cX12_memberRead 111 = .ok (.aload_n 0, 1) := by decide +kernel
theorem dX12_memberRead_112 : decode cX12_memberRead 112 = .ok (.getfield 21, 3) := by decide +kernel
theorem dX12_memberRead_115 : decode cX12_memberRead 115 = .ok (.bipush 48, 2) := by decide +kernel
theorem dX12_memberRead_117 : decode cX12_memberRead 117 = .ok (.iload_n 3, 1) := by decide +kernel
theorem dX12_memberRead_118 : decode cX12_memberRead 118 = .ok (.iadd, 1) := by decide +kernel
theorem dX12_memberRead_119 : decode cX12_memberRead 119 = .ok (.dup2, 1) := by decide +kernel
theorem dX12_memberRead_120 : decode cX12_memberRead 120 = .ok (.iaload, 1) := by decide +kernel
theorem dX12_memberRead_121 : decode cX12_memberRead 121 = .ok (.iconst 1, 1) := by decide +kernel
theorem dX12_memberRead_122 : decode cX12_memberRead 122 = .ok (.iload_n 1, 1) := by decide +kernel
theorem dX12_memberRead_123 : decode cX12_memberRead 123 = .ok (.ishl, 1) := by decide +kernel
theorem dX12_memberRead_124 : decode cX12_memberRead 124 = .ok (.ior, 1) := by decide +kernel
theorem dX12_memberRead_125 : decode cX12_memberRead 125 = .ok (.iastore, 1) := by decide +kernel
theorem dX12_memberRead_126 : decode cX12_memberRead 126 = .ok (.aload_n 0, 1) := by decide +kernel
theorem dX12_memberRead_127 : decode cX12_memberRead 127 = .ok (.getfield 21, 3) := by decide +kernel
theorem dX12_memberRead_130 : decode cX12_memberRead 130 = .ok (.bipush 53, 2) := by decide +kernel
theorem dX12_memberRead_132 : decode cX12_memberRead 132 = .ok (.iload_n 3, 1) := by decide +kernel
theorem dX12_memberRead_133 : decode cX12_memberRead 133 = .ok (.iload_n 1, 1) := by decide +kernel
theorem dX12_memberRead_134 : decode cX12_memberRead 134 = .ok (.invokestatic 190, 3) := by decide +kernel
theorem dX12_memberRead_137 : decode cX12_memberRead 137 = .ok (.iadd, 1) := by decide +kernel
theorem dX12_memberRead_138 : decode cX12_memberRead 138 = .ok (.iload 4, 2) := by decide +kernel
theorem dX12_memberRead_140 : decode cX12_memberRead 140 = .ok (.iastore, 1) := by decide +kernel
theorem dX12_memberRead_141 : decode cX12_memberRead 141 = .ok (.aload_n 0, 1) := by decide +kernel
theorem dX12_memberRead_142 : decode cX12_memberRead 142 = .ok (.getfield 21, 3) := by decide +kernel
theorem dX12_memberRead_145 : decode cX12_memberRead 145 = .ok (.bipush 83, 2) := by decide +kernel
theorem dX12_memberRead_147 : decode cX12_memberRead 147 = .ok (.iload_n 3, 1) := by decide +kernel
theorem dX12_memberRead_148 : decode cX12_memberRead 148 = .ok (.iload_n 1, 1) := by decide +kernel
theorem dX12_memberRead_149 : decode cX12_memberRead 149 = .ok (.invokestatic 190, 3) := by decide +kernel
theorem dX12_memberRead_152 : decode cX12_memberRead 152 = .ok (.iadd, 1) := by decide +kernel
theorem dX12_memberRead_153 : decode cX12_memberRead 153 = .ok (.iload 5, 2) := by decide +kernel
theorem dX12_memberRead_155 : decode cX12_memberRead 155 = .ok (.iastore, 1) := by decide +kernel
theorem dX12_memberRead_156 : decode cX12_memberRead 156 = .ok (.return_, 1) := by decide +kernel
theorem dX12_isTrack_0 : decode cX12_isTrack 0 = .ok (.iconst 0, 1) := by decide +kernel
theorem dX12_isTrack_1 : decode cX12_isTrack 1 = .ok (.istore 4, 2) := by decide +kernel
theorem dX12_isTrack_3 : decode cX12_isTrack 3 = .ok (.iload 4, 2) := by decide +kernel
theorem dX12_isTrack_5 : decode cX12_isTrack 5 = .ok (.aload_n 0, 1) := by decide +kernel
theorem dX12_isTrack_6 : decode cX12_isTrack 6 = .ok (.getfield 21, 3) := by decide +kernel
theorem dX12_isTrack_9 : decode cX12_isTrack 9 = .ok (.iconst 3, 1) := by decide +kernel
theorem dX12_isTrack_10 : decode cX12_isTrack 10 = .ok (.iaload, 1) := by decide +kernel
theorem dX12_isTrack_11 : decode cX12_isTrack 11 = .ok (.if_icmp .ge 63, 3) := by decide +kernel
theorem dX12_isTrack_14 : decode cX12_isTrack 14 = .ok (.aload_n 0, 1) := by decide +kernel
theorem dX12_isTrack_15 : decode cX12_isTrack 15 = .ok (.getfield 21, 3) := by decide +kernel
theorem dX12_isTrack_18 : decode cX12_isTrack 18 = .ok (.bipush 113, 2) := by decide +kernel
theorem dX12_isTrack_20 : decode cX12_isTrack 20 = .ok (.iconst 4, 1) := by decide +kernel
theorem dX12_isTrack_21 : decode cX12_isTrack 21 = .ok (.iload 4, 2) := by decide +kernel
theorem dX12_isTrack_23 : decode cX12_isTrack 23 = .ok (.imul, 1) := by decide +kernel
theorem dX12_isTrack_24 : decode cX12_isTrack 24 = .ok (.iadd, 1) := by decide +kernel
theorem dX12_isTrack_25 : decode cX12_isTrack 25 = .ok (.iaload, 1) := by decide +kernel
theorem dX12_isTrack_26 : decode cX12_isTrack 26 = .ok (.iload_n 1, 1) := by decide +kernel
theorem dX12_isTrack_27 : decode cX12_isTrack 27 = .ok (.if_icmp .ne 41, 3) := by decide +kernel
theorem dX12_isTrack_30 : decode cX12_isTrack 30 = .ok (.aload_n 0, 1) := by decide +kernel
theorem dX12_isTrack_31 : decode cX12_isTrack 31 = .ok (.getfield 21, 3) := by decide +kernel
theorem dX12_isTrack_34 : decode cX12_isTrack 34 = .ok (.bipush 113, 2) := by decide +kernel
theorem dX12_isTrack_36 : decode cX12_isTrack 36 = .ok (.iconst 4, 1) := by decide +kernel
theorem dX12_isTrack_37 : decode cX12_isTrack 37 = .ok (.iload 4, 2) := by decide +kernel
theorem dX12_isTrack_39 : decode cX12_isTrack 39 = .ok (.imul, 1) := by decide +kernel
theorem dX12_isTrack_40 : decode cX12_isTrack 40 = .ok (.iadd, 1) := by decide +kernel
theorem dX12_isTrack_41 : decode cX12_isTrack 41 = .ok (.iconst 1, 1) := by decide +kernel
theorem dX12_isTrack_42 : decode cX12_isTrack 42 = .ok (.iadd, 1) := by decide +kernel
theorem dX12_isTrack_43 : decode cX12_isTrack 43 = .ok (.iaload, 1) := by decide +kernel
theorem dX12_isTrack_44 : decode cX12_isTrack 44 = .ok (.iload_n 2, 1) := by decide +kernel
theorem dX12_isTrack_45 : decode cX12_isTrack 45 = .ok (.if_icmp .ne 23, 3) := by decide +kernel
theorem dX12_isTrack_48 : decode cX12_isTrack 48 = .ok (.aload_n 0, 1) := by decide +kernel
theorem dX12_isTrack_49 : decode cX12_isTrack 49 = .ok (.getfield 21, 3) := by decide +kernel
theorem dX12_isTrack_52 : decode cX12_isTrack 52 = .ok (.bipush 113, 2) := by decide +kernel
theorem dX12_isTrack_54 : decode cX12_isTrack 54 = .ok (.iconst 4, 1) := by decide +kernel
theorem dX12_isTrack_55 : decode cX12_isTrack 55 = .ok (.iload 4, 2) := by decide +kernel
theorem dX12_isTrack_57 : decode cX12_isTrack 57 = .ok (.imul, 1) := by decide +kernel
theorem dX12_isTrack_58 : decode cX12_isTrack 58 = .ok (.iadd, 1) := by decide +kernel
theorem dX12_isTrack_59 : decode cX12_isTrack 59 = .ok (.iconst 2, 1) := by decide +kernel
theorem dX12_isTrack_60 : decode cX12_isTrack 60 = .ok (.iadd, 1) := by decide +kernel
theorem dX12_isTrack_61 : decode cX12_isTrack 61 = .ok (.iaload, 1) := by decide +kernel
theorem dX12_isTrack_62 : decode cX12_isTrack 62 = .ok (.iload_n 3, 1) := by decide +kernel
theorem dX12_isTrack_63 : decode cX12_isTrack 63 = .ok (.if_icmp .ne 5, 3) := by decide +kernel
theorem dX12_isTrack_66 : decode cX12_isTrack 66 = .ok (.iconst 1, 1) := by decide +kernel
theorem dX12_isTrack_67 : decode cX12_isTrack 67 = .ok (.ireturn, 1) := by decide +kernel
theorem dX12_isTrack_68 : decode cX12_isTrack 68 = .ok (.iinc 4 1, 3) := by decide +kernel
theorem dX12_isTrack_71 : decode cX12_isTrack 71 = .ok (.goto (-68), 3) := by decide +kernel
theorem dX12_isTrack_74 : decode cX12_isTrack 74 = .ok (.iconst 0, 1) := by decide +kernel
theorem dX12_isTrack_75 : decode cX12_isTrack 75 = .ok (.ireturn, 1) := by decide +kernel
theorem dX12_trackRead_0 : decode cX12_trackRead 0 = .ok (.aload_n 0, 1) := by decide +kernel
theorem dX12_trackRead_1 : decode cX12_trackRead 1 = .ok (.getfield 21, 3) := by decide +kernel
theorem dX12_trackRead_4 : decode cX12_trackRead 4 = .ok (.iconst 3, 1) := by decide +kernel
theorem dX12_trackRead_5 : decode cX12_trackRead 5 = .ok (.iaload, 1) := by decide +kernel
theorem dX12_trackRead_6 : decode cX12_trackRead 6 = .ok (.istore_n 1, 1) := by decide +kernel
theorem dX12_trackRead_7 : decode cX12_trackRead 7 = .ok (.iload_n 1, 1) := by decide +kernel
theorem dX12_trackRead_8 : decode cX12_trackRead 8 = .ok (.bipush 24, 2) := by decide +kernel
theorem dX12_trackRead_10 : decode cX12_trackRead 10 = .ok (.if_icmp .ne 13, 3) := by decide +kernel
theorem dX12_trackRead_13 : decode cX12_trackRead 13 = .ok (.aload_n 0, 1) := by decide +kernel
theorem dX12_trackRead_14 : decode cX12_trackRead 14 = .ok (.bipush 6, 2) := by decide +kernel
theorem dX12_trackRead_16 : decode cX12_trackRead 16 = .ok (.aload_n 0, 1) := by decide +kernel
theorem dX12_trackRead_17 : decode cX12_trackRead 17 = .ok (.invokevirtual 102, 3) := by decide +kernel
theorem dX12_trackRead_20 : decode cX12_trackRead 20 = .ok (.invokevirtual 106, 3) := by decide +kernel
theorem dX12_trackRead_23 : decode cX12_trackRead 23 = .ok (.aload_n 0, 1) := by decide +kernel
theorem dX12_trackRead_24 : decode cX12_trackRead 24 = .ok (.invokevirtual 110, 3) := by decide +kernel
theorem dX12_trackRead_27 : decode cX12_trackRead 27 = .ok (.ifCond .ne 4, 3) := by decide +kernel
theorem dX12_trackRead_30 : decode cX12_trackRead 30 = .ok (.return_, 1) := by decide +kernel
theorem dX12_trackRead_31 : decode cX12_trackRead 31 = .ok (.aload_n 0, 1) := by decide +kernel
theorem dX12_trackRead_32 : decode cX12_trackRead 32 = .ok (.invokevirtual 139, 3) := by decide +kernel
theorem dX12_trackRead_35 : decode cX12_trackRead 35 = .ok (.aload_n 0, 1) := by decide +kernel
theorem dX12_trackRead_36 : decode cX12_trackRead 36 = .ok (.aload_n 0, 1) := by decide +kernel
theorem dX12_trackRead_37 : decode cX12_trackRead 37 = .ok (.getfield 21, 3) := by decide +kernel
theorem dX12_trackRead_40 : decode cX12_trackRead 40 = .ok (.iconst 0, 1) := by decide +kernel
theorem dX12_trackRead_41 : decode cX12_trackRead 41 = .ok (.invokevirtual 182, 3) := by decide +kernel
theorem dX12_trackRead_44 : decode cX12_trackRead 44 = .ok (.istore_n 2, 1) := by decide +kernel
theorem dX12_trackRead_45 : decode cX12_trackRead 45 = .ok (.aload_n 0, 1) := by decide +kernel
theorem dX12_trackRead_46 : decode cX12_trackRead 46 = .ok (.sipush 486, 3) := by decide +kernel
theorem dX12_trackRead_49 : decode cX12_trackRead 49 = .ok (.invokevirtual 171, 3) := by decide +kernel
theorem dX12_trackRead_52 : decode cX12_trackRead 52 = .ok (.aload_n 0, 1) := by decide +kernel
theorem dX12_trackRead_53 : decode cX12_trackRead 53 = .ok (.aload_n 0, 1) := by decide +kernel
theorem dX12_trackRead_54 : decode cX12_trackRead 54 = .ok (.getfield 21, 3) := by decide +kernel
theorem dX12_trackRead_57 : decode cX12_trackRead 57 = .ok (.iconst 2, 1) := by decide +kernel
theorem dX12_trackRead_58 : decode cX12_trackRead 58 = .ok (.invokevirtual 182, 3) := by decide +kernel
theorem dX12_trackRead_61 : decode cX12_trackRead 61 = .ok (.istore_n 3, 1) := by decide +kernel
theorem dX12_trackRead_62 : decode cX12_trackRead 62 = .ok (.aload_n 0, 1) := by decide +kernel
theorem dX12_trackRead_63 : decode cX12_trackRead 63 = .ok (.invokevirtual 110, 3) := by decide +kernel
theorem dX12_trackRead_66 : decode cX12_trackRead 66 = .ok (.ifCond .eq 28, 3) := by decide +kernel
theorem dX12_trackRead_69 : decode cX12_trackRead 69 = .ok (.aload_n 0, 1) := by decide +kernel
theorem dX12_trackRead_70 : decode cX12_trackRead 70 = .ok (.getfield 21, 3) := by decide +kernel
theorem dX12_trackRead_73 : decode cX12_trackRead 73 = .ok (.bipush 48, 2) := by decide +kernel
theorem dX12_trackRead_75 : decode cX12_trackRead 75 = .ok (.iload_n 3, 1) := by decide +kernel
theorem dX12_trackRead_76 : decode cX12_trackRead 76 = .ok (.iadd, 1) := by decide +kernel
theorem dX12_trackRead_77 : decode cX12_trackRead 77 = .ok (.iaload, 1) := by decide +kernel
theorem dX12_trackRead_78 : decode cX12_trackRead 78 = .ok (.iload_n 2, 1) := by decide +kernel
theorem dX12_trackRead_79 : decode cX12_trackRead 79 = .ok (.invokestatic 186, 3) := by decide +kernel
theorem dX12_trackRead_82 : decode cX12_trackRead 82 = .ok (.ifCond .ne 12, 3) := by decide +kernel
theorem dX12_trackRead_85 : decode cX12_trackRead 85 = .ok (.aload_n 0, 1) := by decide +kernel
theorem dX12_trackRead_86 : decode cX12_trackRead 86 = .ok (.iconst 5, 1) := by decide +kernel
theorem dX12_trackRead_87 : decode cX12_trackRead 87 = .ok (.aload_n 0, 1) := by decide +kernel
theorem dX12_trackRead_88 : decode cX12_trackRead 88 = .ok (.getfield 165, 3) := by decide +kernel
theorem dX12_trackRead_91 : decode cX12_trackRead 91 = .ok (.invokevirtual 106, 3) := by decide +kernel
theorem dX12_trackRead_94 : decode cX12_trackRead 94 = .ok (.aload_n 0, 1) := by decide +kernel
theorem dX12_trackRead_95 : decode cX12_trackRead 95 = .ok (.bipush 89, 2) := by decide +kernel
theorem dX12_trackRead_97 : decode cX12_trackRead 97 = .ok (.invokevirtual 171, 3) := by decide +kernel
theorem dX12_trackRead_100 : decode cX12_trackRead 100 = .ok (.aload_n 0, 1) := by decide +kernel
theorem dX12_trackRead_101 : decode cX12_trackRead 101 = .ok (.aload_n 0, 1) := by decide +kernel
theorem dX12_trackRead_102 : decode cX12_trackRead 102 = .ok (.getfield 21, 3) := by decide +kernel
theorem dX12_trackRead_105 : decode cX12_trackRead 105 = .ok (.iconst 1, 1) := by decide +kernel
theorem dX12_trackRead_106 : decode cX12_trackRead 106 = .ok (.invokevirtual 182, 3) := by decide +kernel
theorem dX12_trackRead_109 : decode cX12_trackRead 109 = .ok (.istore 4, 2) := by decide +kernel
theorem dX12_trackRead_111 : decode cX12_trackRead 111 = .ok (.aload_n 0, 1) := by decide +kernel
theorem dX12_trackRead_112 : decode cX12_trackRead 112 = .ok (.invokevirtual 110, 3) := by decide +kernel
theorem dX12_trackRead_115 : decode cX12_trackRead 115 = .ok (.ifCond .eq 23, 3) := by decide +kernel
theorem dX12_trackRead_118 : decode cX12_trackRead 118 = .ok (.aload_n 0, 1) := by decide +kernel
theorem dX12_trackRead_119 : decode cX12_trackRead 119 = .ok (.iload_n 3, 1) := by decide +kernel
theorem dX12_trackRead_120 : decode cX12_trackRead 120 = .ok (.iload_n 2, 1) := by decide +kernel
theorem dX12_trackRead_121 : decode cX12_trackRead 121 = .ok (.iload 4, 2) := by decide +kernel
theorem dX12_trackRead_123 : decode cX12_trackRead 123 = .ok (.invokevirtual 193, 3) := by decide +kernel
theorem dX12_trackRead_126 : decode cX12_trackRead 126 = .ok (.ifCond .eq 12, 3) := by decide +kernel
theorem dX12_trackRead_129 : decode cX12_trackRead 129 = .ok (.aload_n 0, 1) := by decide +kernel
theorem dX12_trackRead_130 : decode cX12_trackRead 130 = .ok (.iconst 5, 1) := by decide +kernel
theorem dX12_trackRead_131 : decode cX12_trackRead 131 = .ok (.aload_n 0, 1) := by decide +kernel
theorem dX12_trackRead_132 : decode cX12_trackRead 132 = .ok (.getfield 165, 3) := by decide +kernel
theorem dX12_trackRead_135 : decode cX12_trackRead 135 = .ok (.invokevirtual 106, 3) := by decide +kernel
theorem dX12_trackRead_138 : decode cX12_trackRead 138 = .ok (.aload_n 0, 1) := by decide +kernel
theorem dX12_trackRead_139 : decode cX12_trackRead 139 = .ok (.ldc 71, 2) := by decide +kernel
theorem dX12_trackRead_141 : decode cX12_trackRead 141 = .ok (.invokevirtual 171, 3) := by decide +kernel
theorem dX12_trackRead_144 : decode cX12_trackRead 144 = .ok (.aload_n 0, 1) := by decide +kernel
theorem dX12_trackRead_145 : decode cX12_trackRead 145 = .ok (.iconst 1, 1) := by decide +kernel
theorem dX12_trackRead_146 : decode cX12_trackRead 146 = .ok (.sipush 254, 3) := by decide +kernel
theorem dX12_trackRead_149 : decode cX12_trackRead 149 = .ok (.invokevirtual 174, 3) := by decide +kernel
theorem dX12_trackRead_152 : decode cX12_trackRead 152 = .ok (.istore 5, 2) := by decide +kernel
theorem dX12_trackRead_154 : decode cX12_trackRead 154 = .ok (.aload_n 0, 1) := by decide +kernel
theorem dX12_trackRead_155 : decode cX12_trackRead 155 = .ok (.invokevirtual 110, 3) := by decide +kernel
theorem dX12_trackRead_158 : decode cX12_trackRead 158 = .ok (.ifCond .ne 4, 3) := by decide +kernel
theorem dX12_trackRead_161 : decode cX12_trackRead 161 = .ok (.return_, 1) := by decide +kernel
theorem dX12_trackRead_162 : decode cX12_trackRead 162 = .ok (.aload_n 0, 1) := by decide +kernel
theorem dX12_trackRead_163 : decode cX12_trackRead 163 = .ok (.getfield 21, 3) := by decide +kernel
theorem dX12_trackRead_166 : decode cX12_trackRead 166 = .ok (.bipush 113, 2) := by decide +kernel
theorem dX12_trackRead_168 : decode cX12_trackRead 168 = .ok (.iconst 4, 1) := by decide +kernel
theorem dX12_trackRead_169 : decode cX12_trackRead 169 = .ok (.iload_n 1, 1) := by decide +kernel
theorem dX12_trackRead_170 : decode cX12_trackRead 170 = .ok (.imul, 1) := by decide +kernel
theorem dX12_trackRead_171 : decode cX12_trackRead 171 = .ok (.iadd, 1) := by decide +kernel
theorem dX12_trackRead_172 : decode cX12_trackRead 172 = .ok (.iload_n 3, 1) := by decide +kernel
theorem dX12_trackRead_173 : decode cX12_trackRead 173 = .ok (.iastore, 1) := by decide +kernel
theorem dX12_trackRead_174 : decode cX12_trackRead 174 = .ok (.aload_n 0, 1) := by decide +kernel
theorem dX12_trackRead_175 : decode cX12_trackRead 175 = .ok (.getfield 21, 3) := by decide +kernel
theorem dX12_trackRead_178 : decode cX12_trackRead 178 = .ok (.bipush 113, 2) := by decide +kernel
theorem dX12_trackRead_180 : decode cX12_trackRead 180 = .ok (.iconst 4, 1) := by decide +kernel
theorem dX12_trackRead_181 : decode cX12_trackRead 181 = .ok (.iload_n 1, 1) := by decide +kernel
theorem dX12_trackRead_182 : decode cX12_trackRead 182 = .ok (.imul, 1) := by decide +kernel
theorem dX12_trackRead_183 : decode cX12_trackRead 183 = .ok (.iadd, 1) := by decide +kernel
theorem dX12_trackRead_184 : decode cX12_trackRead 184 = .ok (.iconst 1, 1) := by decide +kernel
theorem dX12_trackRead_185 : decode cX12_trackRead 185 = .ok (.iadd, 1) := by decide +kernel
theorem dX12_trackRead_186 : decode cX12_trackRead 186 = .ok (.iload_n 2, 1) := by decide +kernel
theorem dX12_trackRead_187 : decode cX12_trackRead 187 = .ok (.iastore, 1) := by decide +kernel
theorem dX12_trackRead_188 : decode cX12_trackRead 188 = .ok (.aload_n 0, 1) := by decide +kernel
theorem dX12_trackRead_189 : decode cX12_trackRead 189 = .ok (.getfield 21, 3) := by decide +kernel
theorem dX12_trackRead_192 : decode cX12_trackRead 192 = .ok (.bipush 113, 2) := by decide +kernel
theorem dX12_trackRead_194 : decode cX12_trackRead 194 = .ok (.iconst 4, 1) := by decide +kernel
theorem dX12_trackRead_195 : decode cX12_trackRead 195 = .ok (.iload_n 1, 1) := by decide +kernel
theorem dX12_trackRead_196 : decode cX12_trackRead 196 = .ok (.imul, 1) := by decide +kernel
theorem dX12_trackRead_197 : decode cX12_trackRead 197 = .ok (.iadd, 1) := by decide +kernel
theorem dX12_trackRead_198 : decode cX12_trackRead 198 = .ok (.iconst 2, 1) := by decide +kernel
theorem dX12_trackRead_199 : decode cX12_trackRead 199 = .ok (.iadd, 1) := by decide +kernel
theorem dX12_trackRead_200 : decode cX12_trackRead 200 = .ok (.iload 4, 2) := by decide +kernel
theorem dX12_trackRead_202 : decode cX12_trackRead 202 = .ok (.iastore, 1) := by decide +kernel
theorem dX12_trackRead_203 : decode cX12_trackRead 203 = .ok (.aload_n 0, 1) := by decide +kernel
theorem dX12_trackRead_204 : decode cX12_trackRead 204 = .ok (.getfield 21, 3) := by decide +kernel
theorem dX12_trackRead_207 : decode cX12_trackRead 207 = .ok (.bipush 113, 2) := by decide +kernel
theorem dX12_trackRead_209 : decode cX12_trackRead 209 = .ok (.iconst 4, 1) := by decide +kernel
theorem dX12_trackRead_210 : decode cX12_trackRead 210 = .ok (.iload_n 1, 1) := by decide +kernel
theorem dX12_trackRead_211 : decode cX12_trackRead 211 = .ok (.imul, 1) := by decide +kernel
theorem dX12_trackRead_212 : decode cX12_trackRead 212 = .ok (.iadd, 1) := by decide +kernel
theorem dX12_trackRead_213 : decode cX12_trackRead 213 = .ok (.iconst 3, 1) := by decide +kernel
theorem dX12_trackRead_214 : decode cX12_trackRead 214 = .ok (.iadd, 1) := by decide +kernel
theorem dX12_trackRead_215 : decode cX12_trackRead 215 = .ok (.iload 5, 2) := by decide +kernel
theorem dX12_trackRead_217 : decode cX12_trackRead 217 = .ok (.iastore, 1) := by decide +kernel
theorem dX12_trackRead_218 : decode cX12_trackRead 218 = .ok (.aload_n 0, 1) := by decide +kernel
theorem dX12_trackRead_219 : decode cX12_trackRead 219 = .ok (.getfield 21, 3) := by decide +kernel
theorem dX12_trackRead_222 : decode cX12_trackRead 222 = .ok (.iconst 3, 1) := by decide +kernel
theorem dX12_trackRead_223 : decode cX12_trackRead 223 = .ok (.dup2, 1) := by decide +kernel
theorem dX12_trackRead_224 : decode cX12_trackRead 224 = .ok (.iaload, 1) := by decide +kernel
theorem dX12_trackRead_225 : decode cX12_trackRead 225 = .ok (.iconst 1, 1) := by decide +kernel
theorem dX12_trackRead_226 : decode cX12_trackRead 226 = .ok (.iadd, 1) := by decide +kernel
theorem dX12_trackRead_227 : decode cX12_trackRead 227 = .ok (.iastore, 1) := by decide +kernel
theorem dX12_trackRead_228 : decode cX12_trackRead 228 = .ok (.return_, 1) := by decide +kernel
theorem dX12_statementHere_0 : decode cX12_statementHere 0 = .ok (.aload_n 0, 1) := by decide +kernel
theorem dX12_statementHere_1 : decode cX12_statementHere 1 = .ok (.ldc 60, 2) := by decide +kernel
theorem dX12_statementHere_3 : decode cX12_statementHere 3 = .ok (.invokevirtual 136, 3) := by decide +kernel
theorem dX12_statementHere_6 : decode cX12_statementHere 6 = .ok (.ifCond .eq 5, 3) := by decide +kernel
theorem dX12_statementHere_9 : decode cX12_statementHere 9 = .ok (.iconst 0, 1) := by decide +kernel
theorem dX12_statementHere_10 : decode cX12_statementHere 10 = .ok (.ireturn, 1) := by decide +kernel
theorem dX12_statementHere_11 : decode cX12_statementHere 11 = .ok (.aload_n 0, 1) := by decide +kernel
theorem dX12_statementHere_12 : decode cX12_statementHere 12 = .ok (.ldc 61, 2) := by decide +kernel
theorem dX12_statementHere_14 : decode cX12_statementHere 14 = .ok (.invokevirtual 136, 3) := by decide +kernel
theorem dX12_statementHere_17 : decode cX12_statementHere 17 = .ok (.ifCond .eq 5, 3) := by decide +kernel
theorem dX12_statementHere_20 : decode cX12_statementHere 20 = .ok (.iconst 1, 1) := by decide +kernel
theorem dX12_statementHere_21 : decode cX12_statementHere 21 = .ok (.ireturn, 1) := by decide +kernel
theorem dX12_statementHere_22 : decode cX12_statementHere 22 = .ok (.aload_n 0, 1) := by decide +kernel
theorem dX12_statementHere_23 : decode cX12_statementHere 23 = .ok (.ldc 62, 2) := by decide +kernel
theorem dX12_statementHere_25 : decode cX12_statementHere 25 = .ok (.invokevirtual 136, 3) := by decide +kernel
theorem dX12_statementHere_28 : decode cX12_statementHere 28 = .ok (.ifCond .eq 5, 3) := by decide +kernel
theorem dX12_statementHere_31 : decode cX12_statementHere 31 = .ok (.iconst 2, 1) := by decide +kernel
theorem dX12_statementHere_32 : decode cX12_statementHere 32 = .ok (.ireturn, 1) := by decide +kernel
theorem dX12_statementHere_33 : decode cX12_statementHere 33 = .ok (.aload_n 0, 1) := by decide +kernel
theorem dX12_statementHere_34 : decode cX12_statementHere 34 = .ok (.ldc 67, 2) := by decide +kernel
theorem dX12_statementHere_36 : decode cX12_statementHere 36 = .ok (.invokevirtual 136, 3) := by decide +kernel
theorem dX12_statementHere_39 : decode cX12_statementHere 39 = .ok (.ifCond .eq 5, 3) := by decide +kernel
theorem dX12_statementHere_42 : decode cX12_statementHere 42 = .ok (.iconst 3, 1) := by decide +kernel
theorem dX12_statementHere_43 : decode cX12_statementHere 43 = .ok (.ireturn, 1) := by decide +kernel
theorem dX12_statementHere_44 : decode cX12_statementHere 44 = .ok (.aload_n 0, 1) := by decide +kernel
theorem dX12_statementHere_45 : decode cX12_statementHere 45 = .ok (.ldc 70, 2) := by decide +kernel
theorem dX12_statementHere_47 : decode cX12_statementHere 47 = .ok (.invokevirtual 136, 3) := by decide +kernel
theorem dX12_statementHere_50 : decode cX12_statementHere 50 = .ok (.ifCond .eq 7, 3) := by decide +kernel
theorem dX12_statementHere_53 : decode cX12_statementHere 53 = .ok (.iconst 4, 1) := by decide +kernel
theorem dX12_statementHere_54 : decode cX12_statementHere 54 = .ok (.goto 4, 3) := by decide +kernel
theorem dX12_statementHere_57 : decode cX12_statementHere 57 = .ok (.iconst (-1), 1) := by decide +kernel
theorem dX12_statementHere_58 : decode cX12_statementHere 58 = .ok (.ireturn, 1) := by decide +kernel
theorem dX12_statement_0 : decode cX12_statement 0 = .ok (.aload_n 0, 1) := by decide +kernel
theorem dX12_statement_1 : decode cX12_statement 1 = .ok (.invokevirtual 197, 3) := by decide +kernel
theorem dX12_statement_4 : decode cX12_statement 4 = .ok (.istore_n 1, 1) := by decide +kernel
theorem dX12_statement_5 : decode cX12_statement 5 = .ok (.iload_n 1, 1) := by decide +kernel
theorem dX12_statement_6 : decode cX12_statement 6 = .ok (.iconst (-1), 1) := by decide +kernel
theorem dX12_statement_7 : decode cX12_statement 7 = .ok (.if_icmp .ne 10, 3) := by decide +kernel
theorem dX12_statement_10 : decode cX12_statement 10 = .ok (.aload_n 0, 1) := by decide +kernel
theorem dX12_statement_11 : decode cX12_statement 11 = .ok (.invokevirtual 121, 3) := by decide +kernel
theorem dX12_statement_14 : decode cX12_statement 14 = .ok (.goto 44, 3) := by decide +kernel
theorem dX12_statement_17 : decode cX12_statement 17 = .ok (.iload_n 1, 1) := by decide +kernel
theorem dX12_statement_18 : decode cX12_statement 18 = .ok (.iconst 2, 1) := by decide +kernel
theorem dX12_statement_19 : decode cX12_statement 19 = .ok (.if_icmp .ne 10, 3) := by decide +kernel
theorem dX12_statement_22 : decode cX12_statement 22 = .ok (.aload_n 0, 1) := by decide +kernel
theorem dX12_statement_23 : decode cX12_statement 23 = .ok (.invokevirtual 200, 3) := by decide +kernel
theorem dX12_statement_26 : decode cX12_statement 26 = .ok (.goto 32, 3) := by decide +kernel
theorem dX12_statement_29 : decode cX12_statement 29 = .ok (.iload_n 1, 1) := by decide +kernel
theorem dX12_statement_30 : decode cX12_statement 30 = .ok (.iconst 2, 1) := by decide +kernel
theorem dX12_statement_31 : decode cX12_statement 31 = .ok (.if_icmp .ge 11, 3) := by decide +kernel
theorem dX12_statement_34 : decode cX12_statement 34 = .ok (.aload_n 0, 1) := by decide +kernel
theorem dX12_statement_35 : decode cX12_statement 35 = .ok (.iload_n 1, 1) := by decide +kernel
theorem dX12_statement_36 : decode cX12_statement 36 = .ok (.invokevirtual 203, 3) := by decide +kernel
theorem dX12_statement_39 : decode cX12_statement 39 = .ok (.goto 19, 3) := by decide +kernel
theorem dX12_statement_42 : decode cX12_statement 42 = .ok (.iload_n 1, 1) := by decide +kernel
theorem dX12_statement_43 : decode cX12_statement 43 = .ok (.iconst 3, 1) := by decide +kernel
theorem dX12_statement_44 : decode cX12_statement 44 = .ok (.if_icmp .ne 10, 3) := by decide +kernel
theorem dX12_statement_47 : decode cX12_statement 47 = .ok (.aload_n 0, 1) := by decide +kernel
theorem dX12_statement_48 : decode cX12_statement 48 = .ok (.invokevirtual 206, 3) := by decide +kernel
theorem dX12_statement_51 : decode cX12_statement 51 = .ok (.goto 7, 3) := by decide +kernel
theorem dX12_statement_54 : decode cX12_statement 54 = .ok (.aload_n 0, 1) := by decide +kernel
theorem dX12_statement_55 : decode cX12_statement 55 = .ok (.invokevirtual 209, 3) := by decide +kernel
theorem dX12_statement_58 : decode cX12_statement 58 = .ok (.aload_n 0, 1) := by decide +kernel
theorem dX12_statement_59 : decode cX12_statement 59 = .ok (.bipush 59, 2) := by decide +kernel
theorem dX12_statement_61 : decode cX12_statement 61 = .ok (.invokevirtual 212, 3) := by decide +kernel
theorem dX12_statement_64 : decode cX12_statement 64 = .ok (.return_, 1) := by decide +kernel
theorem dX12_gates_0 : decode cX12_gates 0 = .ok (.aload_n 0, 1) := by decide +kernel
theorem dX12_gates_1 : decode cX12_gates 1 = .ok (.getfield 17, 3) := by decide +kernel
theorem dX12_gates_4 : decode cX12_gates 4 = .ok (.iconst 0, 1) := by decide +kernel
theorem dX12_gates_5 : decode cX12_gates 5 = .ok (.iaload, 1) := by decide +kernel
theorem dX12_gates_6 : decode cX12_gates 6 = .ok (.ireturn, 1) := by decide +kernel
theorem dX12_groups_0 : decode cX12_groups 0 = .ok (.aload_n 0, 1) := by decide +kernel
theorem dX12_groups_1 : decode cX12_groups 1 = .ok (.getfield 17, 3) := by decide +kernel
theorem dX12_groups_4 : decode cX12_groups 4 = .ok (.iconst 2, 1) := by decide +kernel
theorem dX12_groups_5 : decode cX12_groups 5 = .ok (.iaload, 1) := by decide +kernel
theorem dX12_groups_6 : decode cX12_groups 6 = .ok (.ireturn, 1) := by decide +kernel
theorem dX12_isGroup_0 : decode cX12_isGroup 0 = .ok (.iload_n 1, 1) := by decide +kernel
theorem dX12_isGroup_1 : decode cX12_isGroup 1 = .ok (.i2l, 1) := by decide +kernel
theorem dX12_isGroup_2 : decode cX12_isGroup 2 = .ok (.lconst 0, 1) := by decide +kernel
theorem dX12_isGroup_3 : decode cX12_isGroup 3 = .ok (.aload_n 0, 1) := by decide +kernel
theorem dX12_isGroup_4 : decode cX12_isGroup 4 = .ok (.invokevirtual 253, 3) := by decide +kernel
theorem dX12_isGroup_7 : decode cX12_isGroup 7 = .ok (.iconst 1, 1) := by decide +kernel
theorem dX12_isGroup_8 : decode cX12_isGroup 8 = .ok (.isub, 1) := by decide +kernel
theorem dX12_isGroup_9 : decode cX12_isGroup 9 = .ok (.i2l, 1) := by decide +kernel
theorem dX12_isGroup_10 : decode cX12_isGroup 10 = .ok (.invokestatic 56, 3) := by decide +kernel
theorem dX12_isGroup_13 : decode cX12_isGroup 13 = .ok (.ireturn, 1) := by decide +kernel
theorem dX12_isGate_0 : decode cX12_isGate 0 = .ok (.iload_n 1, 1) := by decide +kernel
theorem dX12_isGate_1 : decode cX12_isGate 1 = .ok (.i2l, 1) := by decide +kernel
theorem dX12_isGate_2 : decode cX12_isGate 2 = .ok (.lconst 0, 1) := by decide +kernel
theorem dX12_isGate_3 : decode cX12_isGate 3 = .ok (.aload_n 0, 1) := by decide +kernel
theorem dX12_isGate_4 : decode cX12_isGate 4 = .ok (.invokevirtual 256, 3) := by decide +kernel
theorem dX12_isGate_7 : decode cX12_isGate 7 = .ok (.iconst 1, 1) := by decide +kernel
theorem dX12_isGate_8 : decode cX12_isGate 8 = .ok (.isub, 1) := by decide +kernel
theorem dX12_isGate_9 : decode cX12_isGate 9 = .ok (.i2l, 1) := by decide +kernel
theorem dX12_isGate_10 : decode cX12_isGate 10 = .ok (.invokestatic 56, 3) := by decide +kernel
theorem dX12_isGate_13 : decode cX12_isGate 13 = .ok (.ireturn, 1) := by decide +kernel
theorem dX12_isMember_0 : decode cX12_isMember 0 = .ok (.aload_n 0, 1) := by decide +kernel
theorem dX12_isMember_1 : decode cX12_isMember 1 = .ok (.iload_n 1, 1) := by decide +kernel
theorem dX12_isMember_2 : decode cX12_isMember 2 = .ok (.invokevirtual 259, 3) := by decide +kernel
theorem dX12_isMember_5 : decode cX12_isMember 5 = .ok (.ifCond .eq 31, 3) := by decide +kernel
theorem dX12_isMember_8 : decode cX12_isMember 8 = .ok (.aload_n 0, 1) := by decide +kernel
theorem dX12_isMember_9 : decode cX12_isMember 9 = .ok (.iload_n 2, 1) := by decide +kernel
theorem dX12_isMember_10 : decode cX12_isMember 10 = .ok (.invokevirtual 262, 3) := by decide +kernel
theorem dX12_isMember_13 : decode cX12_isMember 13 = .ok (.ifCond .eq 23, 3) := by decide +kernel
theorem dX12_isMember_16 : decode cX12_isMember 16 = .ok (.aload_n 0, 1) := by decide +kernel
theorem dX12_isMember_17 : decode cX12_isMember 17 = .ok (.getfield 17, 3) := by decide +kernel
theorem dX12_isMember_20 : decode cX12_isMember 20 = .ok (.bipush 48, 2) := by decide +kernel
theorem dX12_isMember_22 : decode cX12_isMember 22 = .ok (.iload_n 1, 1) := by decide +kernel
theorem dX12_isMember_23 : decode cX12_isMember 23 = .ok (.iadd, 1) := by decide +kernel
theorem dX12_isMember_24 : decode cX12_isMember 24 = .ok (.iaload, 1) := by decide +kernel
theorem dX12_isMember_25 : decode cX12_isMember 25 = .ok (.iload_n 2, 1) := by decide +kernel
theorem dX12_isMember_26 : decode cX12_isMember 26 = .ok (.invokestatic 186, 3) := by decide +kernel
theorem dX12_isMember_29 : decode cX12_isMember 29 = .ok (.ifCond .eq 7, 3) := by decide +kernel
theorem dX12_isMember_32 : decode cX12_isMember 32 = .ok (.iconst 1, 1) := by decide +kernel
